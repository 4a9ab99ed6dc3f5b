-- the reference's second reading: what holds while it goes
theorem b2nz {b : Bool} : b2l (nzV (b2l b)) = b2l b := by rw [nzb]
def isF (kd : Int32) : Prop := kd = 0 ∨ kd = 1 ∨ kd = 2 ∨ kd = 3 ∨ kd = 4 ∨ kd = 5 ∨ kd = 6 ∨ kd = 7 ∨ kd = 8 ∨ kd = 9 ∨ kd = 10 ∨ kd = 11 ∨ kd = 12 ∨ kd = 13
theorem opV_bool {kd a lo hi th : Int32} {h : Hs} {A B C : Nat → Int64} {i : Nat} (hk : isF kd) : b2l (nzV (opV kd a lo hi th h A B C i)) = opV kd a lo hi th h A B C i := by
  rcases hk with rfl | rfl | rfl | rfl | rfl | rfl | rfl | rfl | rfl | rfl | rfl | rfl | rfl | rfl <;> simp [opV, b2nz]
  · rfl
  · rfl
/-- a meaning that holds or does not -/
def BlD (D : Den) : Prop := ∀ h i, b2l (nzV (D.1 h i)) = D.1 h i
section MP
variable {σ0 σ σ1 σ2 σ3 : MS} {V0 : Nat → Prop} {lo L len k nx : Nat} {kw : Nat → Int64} {bt : Nat → Int32} {c : Cx}
def FrM (σ0 : MS) (lo : Nat) (σ : MS) : Prop := (∀ j, j ≠ 3 → j ≠ 7 → j ≠ 8 → j ≠ 17 → j ≠ 37 → j ≠ 38 → σ.1 j = σ0.1 j) ∧ (∀ j, (j < 9 ∨ 15 < j) → σ.2.1 j = σ0.2.1 j) ∧ (∀ j q, q < lo → σ.2.1 j q = σ0.2.1 j q) ∧ σ.2.2 = σ0.2.2
theorem FrM.refl : FrM σ0 lo σ0 := ⟨fun _ _ _ _ _ _ _ => rfl, fun _ _ => rfl, fun _ _ _ => rfl, rfl⟩
theorem FrM.int (h : FrM σ0 lo σ) {j : Nat} {v : Int32} (hj : j = 3 ∨ j = 7 ∨ j = 8 ∨ j = 17 ∨ j = 37 ∨ j = 38) : FrM σ0 lo (sI σ j v) := ⟨fun i a b d e f g => by rw [sI_o (by omega)]; exact h.1 i a b d e f g, h.2.1, h.2.2.1, h.2.2.2⟩
theorem TkE.fr (h : TkE kw bt len L c σ0) (g : FrM σ0 lo σ) : TkE kw bt len L c σ := by
  obtain ⟨a, b, d, e, f, t, l⟩ := h
  refine ⟨a, b, d, e, f, ⟨by rw [g.2.1 1 (by omega)]; exact t.1, fun k hk => ?_⟩, l⟩
  rw [g.2.1 4 (by omega), g.2.1 5 (by omega), g.2.1 6 (by omega)]
  exact t.2 k hk
def CMm (V0 : Nat → Prop) (lo nx : Nat) (σ : MS) : Prop := σ.1 8 = nI nx ∧ lo ≤ nx ∧ okT (Vx V0 lo nx) (ntM σ) ∧ ∀ q, Vx V0 lo nx q → okB (ntM σ q)
theorem CMm.int (h : CMm V0 lo nx σ) {j : Nat} {v : Int32} (hj : j ≠ 8) : CMm V0 lo nx (sI σ j v) := ⟨by rw [sI_o (fun e => hj e.symm)]; exact h.1, h.2.1, h.2.2.1, h.2.2.2⟩
/-- what the names stand for -/
def GM (c : Cx) (σ0 : MS) (V0 : Nat → Prop) (lo L : Nat) : Prop := okT V0 (ntM σ0) ∧ ∀ k, Rk c.1 k → c.1 k = 51 → (c.2.2.2 (c.2.2.1 k) = none → ∀ σ, FrM σ0 lo σ → FX11_find L (nI k) σ = some (-1, σ)) ∧ ∀ s n D, c.2.2.2 (c.2.2.1 k) = some (s, n, D) → ∃ j sn m, j < 44 ∧ (∀ σ, FrM σ0 lo σ → FX11_find L (nI k) σ = some (nI j, σ)) ∧ sn < 4 ∧ s = nI sn ∧ σ0.2.1 21 j = s ∧ σ0.2.1 22 j = n ∧ n = nI m ∧ (sn = 0 → m < 8) ∧ (sn ≠ 0 → m < 12 ∧ ∃ q, V0 q ∧ σ0.2.1 25 (12 * sn + m) = nI q ∧ dnV (ntM σ0) q = D.1 ∧ (sn = 1 ∨ sn = 3 → dnR (ntM σ0) (σ0.2.1 15) q = D.2 ∧ BlD D))
def CtM (kw : Nat → Int64) (bt : Nat → Int32) (len : Nat) (c : Cx) (σ0 : MS) (V0 : Nat → Prop) (lo L : Nat) : Prop := TkE kw bt len L c σ0 ∧ lo + 400 ≤ 1203 ∧ (∀ q, V0 q → q < lo) ∧ GM c σ0 V0 lo L
def SM (c : Cx) (σ0 : MS) (V0 : Nat → Prop) (lo nx k : Nat) (σ : MS) : Prop := FrM σ0 lo σ ∧ σ.1 7 = nI k ∧ Rk c.1 k ∧ CMm V0 lo nx σ ∧ nx ≤ lo + k ∧ σ.1 3 = σ0.1 3
theorem sI_id {k : Nat} {v : Int32} (h : σ.1 k = v) : sI σ k v = σ := by
  show ((va_up σ.1 k v, σ.2) : MS) = σ
  have : va_up σ.1 k v = σ.1 := by
    funext j; unfold va_up; by_cases e : j = k
    · rw [if_pos e, e, h]
    · rw [if_neg e]
  rw [this]
theorem aM_id (h : σ.1 7 = nI k) : aM σ k = σ := sI_id h
theorem SM.go (h : SM c σ0 V0 lo nx k σ) {k1 : Nat} (hk : Rk c.1 k1) (h1 : k ≤ k1) : SM c σ0 V0 lo nx k1 (sI σ 7 (nI k1)) := ⟨h.1.int (by omega), sI_g, hk, h.2.2.2.1.int (by decide), by have := h.2.2.2.2.1; omega, by rw [sI_o (by decide)]; exact h.2.2.2.2.2⟩
theorem SM.next (h : SM c σ0 V0 lo nx k σ) {s : Int32} (hs : c.1 k = s) (h4 : k ≠ 400) (h1 : s ≠ 53) (h2 : s ≠ 54) : SM c σ0 V0 lo nx (k + 1) (sI σ 7 (σ.1 7 + 1)) := by
  rw [h.2.1, ← nI_succ]
  exact h.go (h.2.2.1.next h4 (by rw [hs]; exact h1) (by rw [hs]; exact h2)) (by omega)
theorem rS_1 (h : TkE kw bt len L c σ) (h7 : σ.1 7 = nI k) (hk : Rk c.1 k) : FX11_sees L 1 σ = some (bI (decide (c.1 k = 0)), σ) := by
  have := rSees_1 h hk
  rw [aM_id h7] at this
  exact this
theorem rS_2 (h : TkE kw bt len L c σ) (h7 : σ.1 7 = nI k) (hk : Rk c.1 k) : FX11_sees L 2 σ = some (bI (decide (c.1 k = 44)), σ) := by
  have := rSees_2 h hk
  rw [aM_id h7] at this
  exact this
theorem rS_3 (h : TkE kw bt len L c σ) (h7 : σ.1 7 = nI k) (hk : Rk c.1 k) : FX11_sees L 3 σ = some (bI (decide (c.1 k = 40)), σ) := by
  have := rSees_3 h hk
  rw [aM_id h7] at this
  exact this
theorem rS_4 (h : TkE kw bt len L c σ) (h7 : σ.1 7 = nI k) (hk : Rk c.1 k) : FX11_sees L 4 σ = some (bI (decide (c.1 k = 36)), σ) := by
  have := rSees_4 h hk
  rw [aM_id h7] at this
  exact this
theorem rS_5 (h : TkE kw bt len L c σ) (h7 : σ.1 7 = nI k) (hk : Rk c.1 k) : FX11_sees L 5 σ = some (bI (decide (c.1 k = 1)), σ) := by
  have := rSees_5 h hk
  rw [aM_id h7] at this
  exact this
theorem rS_6 (h : TkE kw bt len L c σ) (h7 : σ.1 7 = nI k) (hk : Rk c.1 k) : FX11_sees L 6 σ = some (bI (decide (c.1 k = 38)), σ) := by
  have := rSees_6 h hk
  rw [aM_id h7] at this
  exact this
theorem rS_7 (h : TkE kw bt len L c σ) (h7 : σ.1 7 = nI k) (hk : Rk c.1 k) : FX11_sees L 7 σ = some (bI (decide (c.1 k = 2)), σ) := by
  have := rSees_7 h hk
  rw [aM_id h7] at this
  exact this
theorem rS_8 (h : TkE kw bt len L c σ) (h7 : σ.1 7 = nI k) (hk : Rk c.1 k) : FX11_sees L 8 σ = some (bI (decide (c.1 k = 3)), σ) := by
  have := rSees_8 h hk
  rw [aM_id h7] at this
  exact this
theorem rS_9 (h : TkE kw bt len L c σ) (h7 : σ.1 7 = nI k) (hk : Rk c.1 k) : FX11_sees L 9 σ = some (bI (decide (c.1 k = 37)), σ) := by
  have := rSees_9 h hk
  rw [aM_id h7] at this
  exact this
theorem rS_10 (h : TkE kw bt len L c σ) (h7 : σ.1 7 = nI k) (hk : Rk c.1 k) : FX11_sees L 10 σ = some (bI (decide (c.1 k = 4)), σ) := by
  have := rSees_10 h hk
  rw [aM_id h7] at this
  exact this
theorem rS_11 (h : TkE kw bt len L c σ) (h7 : σ.1 7 = nI k) (hk : Rk c.1 k) : FX11_sees L 11 σ = some (bI (decide (c.1 k = 13)), σ) := by
  have := rSees_11 h hk
  rw [aM_id h7] at this
  exact this
theorem rS_12 (h : TkE kw bt len L c σ) (h7 : σ.1 7 = nI k) (hk : Rk c.1 k) : FX11_sees L 12 σ = some (bI (decide (c.1 k = 14)), σ) := by
  have := rSees_12 h hk
  rw [aM_id h7] at this
  exact this
theorem rS_13 (h : TkE kw bt len L c σ) (h7 : σ.1 7 = nI k) (hk : Rk c.1 k) : FX11_sees L 13 σ = some (bI (decide (c.1 k = 12)), σ) := by
  have := rSees_13 h hk
  rw [aM_id h7] at this
  exact this
theorem rS_14 (h : TkE kw bt len L c σ) (h7 : σ.1 7 = nI k) (hk : Rk c.1 k) : FX11_sees L 14 σ = some (bI (decide (c.1 k = 11)), σ) := by
  have := rSees_14 h hk
  rw [aM_id h7] at this
  exact this
theorem rS_15 (h : TkE kw bt len L c σ) (h7 : σ.1 7 = nI k) (hk : Rk c.1 k) : FX11_sees L 15 σ = some (bI (decide (c.1 k = 34)), σ) := by
  have := rSees_15 h hk
  rw [aM_id h7] at this
  exact this
theorem rS_16 (h : TkE kw bt len L c σ) (h7 : σ.1 7 = nI k) (hk : Rk c.1 k) : FX11_sees L 16 σ = some (bI (decide (c.1 k = 50)), σ) := by
  have := rSees_16 h hk
  rw [aM_id h7] at this
  exact this
theorem rS_17 (h : TkE kw bt len L c σ) (h7 : σ.1 7 = nI k) (hk : Rk c.1 k) : FX11_sees L 17 σ = some (bI (decide (c.1 k = 35)), σ) := by
  have := rSees_17 h hk
  rw [aM_id h7] at this
  exact this
theorem rS_18 (h : TkE kw bt len L c σ) (h7 : σ.1 7 = nI k) (hk : Rk c.1 k) : FX11_sees L 18 σ = some (bI (decide (c.1 k = 32)), σ) := by
  have := rSees_18 h hk
  rw [aM_id h7] at this
  exact this
theorem rS_19 (h : TkE kw bt len L c σ) (h7 : σ.1 7 = nI k) (hk : Rk c.1 k) : FX11_sees L 19 σ = some (bI (decide (c.1 k = 33)), σ) := by
  have := rSees_19 h hk
  rw [aM_id h7] at this
  exact this
theorem rS_20 (h : TkE kw bt len L c σ) (h7 : σ.1 7 = nI k) (hk : Rk c.1 k) : FX11_sees L 20 σ = some (bI (decide (c.1 k = 16)), σ) := by
  have := rSees_20 h hk
  rw [aM_id h7] at this
  exact this
theorem rS_21 (h : TkE kw bt len L c σ) (h7 : σ.1 7 = nI k) (hk : Rk c.1 k) : FX11_sees L 21 σ = some (bI (decide (c.1 k = 17)), σ) := by
  have := rSees_21 h hk
  rw [aM_id h7] at this
  exact this
theorem rS_22 (h : TkE kw bt len L c σ) (h7 : σ.1 7 = nI k) (hk : Rk c.1 k) : FX11_sees L 22 σ = some (bI (decide (c.1 k = 15)), σ) := by
  have := rSees_22 h hk
  rw [aM_id h7] at this
  exact this
theorem rS_23 (h : TkE kw bt len L c σ) (h7 : σ.1 7 = nI k) (hk : Rk c.1 k) : FX11_sees L 23 σ = some (bI (decide (c.1 k = 39)), σ) := by
  have := rSees_23 h hk
  rw [aM_id h7] at this
  exact this
theorem rS_24 (h : TkE kw bt len L c σ) (h7 : σ.1 7 = nI k) (hk : Rk c.1 k) : FX11_sees L 24 σ = some (bI (decide (c.1 k = 41)), σ) := by
  have := rSees_24 h hk
  rw [aM_id h7] at this
  exact this
theorem rS_25 (h : TkE kw bt len L c σ) (h7 : σ.1 7 = nI k) (hk : Rk c.1 k) : FX11_sees L 25 σ = some (bI (decide (c.1 k = 42)), σ) := by
  have := rSees_25 h hk
  rw [aM_id h7] at this
  exact this
theorem rS_26 (h : TkE kw bt len L c σ) (h7 : σ.1 7 = nI k) (hk : Rk c.1 k) : FX11_sees L 26 σ = some (bI (decide (c.1 k = 43)), σ) := by
  have := rSees_26 h hk
  rw [aM_id h7] at this
  exact this
theorem rS_27 (h : TkE kw bt len L c σ) (h7 : σ.1 7 = nI k) (hk : Rk c.1 k) : FX11_sees L 27 σ = some (bI (decide (c.1 k = 28)), σ) := by
  have := rSees_27 h hk
  rw [aM_id h7] at this
  exact this
theorem rS_28 (h : TkE kw bt len L c σ) (h7 : σ.1 7 = nI k) (hk : Rk c.1 k) : FX11_sees L 28 σ = some (bI (decide (c.1 k = 29)), σ) := by
  have := rSees_28 h hk
  rw [aM_id h7] at this
  exact this
theorem rS_29 (h : TkE kw bt len L c σ) (h7 : σ.1 7 = nI k) (hk : Rk c.1 k) : FX11_sees L 29 σ = some (bI (decide (c.1 k = 30)), σ) := by
  have := rSees_29 h hk
  rw [aM_id h7] at this
  exact this
theorem rS_30 (h : TkE kw bt len L c σ) (h7 : σ.1 7 = nI k) (hk : Rk c.1 k) : FX11_sees L 30 σ = some (bI (decide (c.1 k = 31)), σ) := by
  have := rSees_30 h hk
  rw [aM_id h7] at this
  exact this
theorem rS_31 (h : TkE kw bt len L c σ) (h7 : σ.1 7 = nI k) (hk : Rk c.1 k) : FX11_sees L 31 σ = some (bI (decide (c.1 k = 25)), σ) := by
  have := rSees_31 h hk
  rw [aM_id h7] at this
  exact this
theorem rS_32 (h : TkE kw bt len L c σ) (h7 : σ.1 7 = nI k) (hk : Rk c.1 k) : FX11_sees L 32 σ = some (bI (decide (c.1 k = 27)), σ) := by
  have := rSees_32 h hk
  rw [aM_id h7] at this
  exact this
theorem rS_33 (h : TkE kw bt len L c σ) (h7 : σ.1 7 = nI k) (hk : Rk c.1 k) : FX11_sees L 33 σ = some (bI (decide (c.1 k = 26)), σ) := by
  have := rSees_33 h hk
  rw [aM_id h7] at this
  exact this
theorem rS_34 (h : TkE kw bt len L c σ) (h7 : σ.1 7 = nI k) (hk : Rk c.1 k) : FX11_sees L 34 σ = some (bI (decide (c.1 k = 18)), σ) := by
  have := rSees_34 h hk
  rw [aM_id h7] at this
  exact this
theorem rS_35 (h : TkE kw bt len L c σ) (h7 : σ.1 7 = nI k) (hk : Rk c.1 k) : FX11_sees L 35 σ = some (bI (decide (c.1 k = 19)), σ) := by
  have := rSees_35 h hk
  rw [aM_id h7] at this
  exact this
theorem rS_36 (h : TkE kw bt len L c σ) (h7 : σ.1 7 = nI k) (hk : Rk c.1 k) : FX11_sees L 36 σ = some (bI (decide (c.1 k = 20)), σ) := by
  have := rSees_36 h hk
  rw [aM_id h7] at this
  exact this
theorem rS_37 (h : TkE kw bt len L c σ) (h7 : σ.1 7 = nI k) (hk : Rk c.1 k) : FX11_sees L 37 σ = some (bI (decide (c.1 k = 5)), σ) := by
  have := rSees_37 h hk
  rw [aM_id h7] at this
  exact this
theorem rS_38 (h : TkE kw bt len L c σ) (h7 : σ.1 7 = nI k) (hk : Rk c.1 k) : FX11_sees L 38 σ = some (bI (decide (c.1 k = 6)), σ) := by
  have := rSees_38 h hk
  rw [aM_id h7] at this
  exact this
theorem rS_39 (h : TkE kw bt len L c σ) (h7 : σ.1 7 = nI k) (hk : Rk c.1 k) : FX11_sees L 39 σ = some (bI (decide (c.1 k = 7)), σ) := by
  have := rSees_39 h hk
  rw [aM_id h7] at this
  exact this
theorem rS_40 (h : TkE kw bt len L c σ) (h7 : σ.1 7 = nI k) (hk : Rk c.1 k) : FX11_sees L 40 σ = some (bI (decide (c.1 k = 8)), σ) := by
  have := rSees_40 h hk
  rw [aM_id h7] at this
  exact this
theorem rS_41 (h : TkE kw bt len L c σ) (h7 : σ.1 7 = nI k) (hk : Rk c.1 k) : FX11_sees L 41 σ = some (bI (decide (c.1 k = 9)), σ) := by
  have := rSees_41 h hk
  rw [aM_id h7] at this
  exact this
theorem rS_42 (h : TkE kw bt len L c σ) (h7 : σ.1 7 = nI k) (hk : Rk c.1 k) : FX11_sees L 42 σ = some (bI (decide (c.1 k = 10)), σ) := by
  have := rSees_42 h hk
  rw [aM_id h7] at this
  exact this
theorem rS_43 (h : TkE kw bt len L c σ) (h7 : σ.1 7 = nI k) (hk : Rk c.1 k) : FX11_sees L 43 σ = some (bI (decide (c.1 k = 21)), σ) := by
  have := rSees_43 h hk
  rw [aM_id h7] at this
  exact this
theorem rS_44 (h : TkE kw bt len L c σ) (h7 : σ.1 7 = nI k) (hk : Rk c.1 k) : FX11_sees L 44 σ = some (bI (decide (c.1 k = 22)), σ) := by
  have := rSees_44 h hk
  rw [aM_id h7] at this
  exact this
theorem rS_45 (h : TkE kw bt len L c σ) (h7 : σ.1 7 = nI k) (hk : Rk c.1 k) : FX11_sees L 45 σ = some (bI (decide (c.1 k = 23)), σ) := by
  have := rSees_45 h hk
  rw [aM_id h7] at this
  exact this
theorem rS_46 (h : TkE kw bt len L c σ) (h7 : σ.1 7 = nI k) (hk : Rk c.1 k) : FX11_sees L 46 σ = some (bI (decide (c.1 k = 24)), σ) := by
  have := rSees_46 h hk
  rw [aM_id h7] at this
  exact this
theorem rS_47 (h : TkE kw bt len L c σ) (h7 : σ.1 7 = nI k) (hk : Rk c.1 k) : FX11_sees L 47 σ = some (bI (decide (c.1 k = 45)), σ) := by
  have := rSees_47 h hk
  rw [aM_id h7] at this
  exact this
theorem rS_48 (h : TkE kw bt len L c σ) (h7 : σ.1 7 = nI k) (hk : Rk c.1 k) : FX11_sees L 48 σ = some (bI (decide (c.1 k = 46)), σ) := by
  have := rSees_48 h hk
  rw [aM_id h7] at this
  exact this
theorem rS_49 (h : TkE kw bt len L c σ) (h7 : σ.1 7 = nI k) (hk : Rk c.1 k) : FX11_sees L 49 σ = some (bI (decide (c.1 k = 47)), σ) := by
  have := rSees_49 h hk
  rw [aM_id h7] at this
  exact this
theorem rS_50 (h : TkE kw bt len L c σ) (h7 : σ.1 7 = nI k) (hk : Rk c.1 k) : FX11_sees L 50 σ = some (bI (decide (c.1 k = 48)), σ) := by
  have := rSees_50 h hk
  rw [aM_id h7] at this
  exact this
theorem rS_51 (h : TkE kw bt len L c σ) (h7 : σ.1 7 = nI k) (hk : Rk c.1 k) : FX11_sees L 51 σ = some (bI (decide (c.1 k = 49)), σ) := by
  have := rSees_51 h hk
  rw [aM_id h7] at this
  exact this
theorem rI_20 (h : TkE kw bt len L c σ) (hk : Rk c.1 k) : FX11_is L (nI k) 20 σ = some (bI (decide (c.1 k = 16)), σ) := by
  have e := h.2.2.1
  rw [e] at hk ⊢
  exact rIs_20 h.1 h.2.1 h.2.2.2.2.2.1 hk h.2.2.2.2.2.2
theorem rI_27 (h : TkE kw bt len L c σ) (hk : Rk c.1 k) : FX11_is L (nI k) 27 σ = some (bI (decide (c.1 k = 28)), σ) := by
  have e := h.2.2.1
  rw [e] at hk ⊢
  exact rIs_27 h.1 h.2.1 h.2.2.2.2.2.1 hk h.2.2.2.2.2.2
theorem rI_28 (h : TkE kw bt len L c σ) (hk : Rk c.1 k) : FX11_is L (nI k) 28 σ = some (bI (decide (c.1 k = 29)), σ) := by
  have e := h.2.2.1
  rw [e] at hk ⊢
  exact rIs_28 h.1 h.2.1 h.2.2.2.2.2.1 hk h.2.2.2.2.2.2
theorem rI_29 (h : TkE kw bt len L c σ) (hk : Rk c.1 k) : FX11_is L (nI k) 29 σ = some (bI (decide (c.1 k = 30)), σ) := by
  have e := h.2.2.1
  rw [e] at hk ⊢
  exact rIs_29 h.2.1 h.2.2.2.2.2.1 hk h.2.2.2.2.2.2
theorem rI_31 (h : TkE kw bt len L c σ) (hk : Rk c.1 k) : FX11_is L (nI k) 31 σ = some (bI (decide (c.1 k = 25)), σ) := by
  have e := h.2.2.1
  rw [e] at hk ⊢
  exact rIs_31 h.1 h.2.1 h.2.2.2.2.2.1 hk h.2.2.2.2.2.2
theorem rI_32 (h : TkE kw bt len L c σ) (hk : Rk c.1 k) : FX11_is L (nI k) 32 σ = some (bI (decide (c.1 k = 27)), σ) := by
  have e := h.2.2.1
  rw [e] at hk ⊢
  exact rIs_32 h.1 h.2.1 h.2.2.2.2.2.1 hk h.2.2.2.2.2.2
theorem rI_33 (h : TkE kw bt len L c σ) (hk : Rk c.1 k) : FX11_is L (nI k) 33 σ = some (bI (decide (c.1 k = 26)), σ) := by
  have e := h.2.2.1
  rw [e] at hk ⊢
  exact rIs_33 h.1 h.2.1 h.2.2.2.2.2.1 hk h.2.2.2.2.2.2
theorem rI_34 (h : TkE kw bt len L c σ) (hk : Rk c.1 k) : FX11_is L (nI k) 34 σ = some (bI (decide (c.1 k = 18)), σ) := by
  have e := h.2.2.1
  rw [e] at hk ⊢
  exact rIs_34 h.1 h.2.1 h.2.2.2.2.2.1 hk h.2.2.2.2.2.2
theorem rW_1 (h : TkE kw bt len L c σ) (hk : Rk c.1 k) : FX11_which L (nI k) 1 σ = some (wF (fun i => decide (c.1 k = cs1.getD i 99)) 6, σ) := by
  have e := h.2.2.1
  rw [e] at hk ⊢
  exact rWh_1 h.1 h.2.1 h.2.2.2.2.2.1 hk h.2.2.2.2.2.2
theorem rW_2 (h : TkE kw bt len L c σ) (hk : Rk c.1 k) : FX11_which L (nI k) 2 σ = some (wF (fun i => decide (c.1 k = cs2.getD i 99)) 5, σ) := by
  have e := h.2.2.1
  rw [e] at hk ⊢
  exact rWh_2 h.1 h.2.1 h.2.2.2.2.2.1 hk h.2.2.2.2.2.2
theorem rW_3 (h : TkE kw bt len L c σ) (hk : Rk c.1 k) : FX11_which L (nI k) 3 σ = some (wF (fun i => decide (c.1 k = cs3.getD i 99)) 6, σ) := by
  have e := h.2.2.1
  rw [e] at hk ⊢
  exact rWh_3 h.1 h.2.1 h.2.2.2.2.2.1 hk h.2.2.2.2.2.2
theorem rW_4 (h : TkE kw bt len L c σ) (hk : Rk c.1 k) : FX11_which L (nI k) 4 σ = some (wF (fun i => decide (c.1 k = cs4.getD i 99)) 5, σ) := by
  have e := h.2.2.1
  rw [e] at hk ⊢
  exact rWh_4 h.1 h.2.1 h.2.2.2.2.2.1 hk h.2.2.2.2.2.2
theorem rW_5 (h : TkE kw bt len L c σ) (hk : Rk c.1 k) : FX11_which L (nI k) 5 σ = some (wF (fun i => decide (c.1 k = cs5.getD i 99)) 4, σ) := by
  have e := h.2.2.1
  rw [e] at hk ⊢
  exact rWh_5 h.1 h.2.1 h.2.2.2.2.2.1 hk h.2.2.2.2.2.2
theorem rN (h : TkE kw bt len L c σ) (hk : Rk c.1 k) : FX11_isName L (nI k) σ = some (bI (decide (c.1 k = 51)), σ) := by
  have e := h.2.2.1
  rw [e] at hk ⊢
  exact rName h.1 h.2.1 h.2.2.2.2.2.1 hk h.2.2.2.2.2.2
theorem rNum (h : TkE kw bt len L c σ) (hk : Rk c.1 k) (hs : c.1 k = 52) : ∃ v, v < 1000000 ∧ nb c k = nI v ∧ c.2.2.1 k = lN v ∧ FX11_numberOf L (nI k) σ = some (nI v, σ) := by
  have e := h.2.2.1
  rw [e] at hk hs
  obtain ⟨v, h1, h2, h3⟩ := rNumber h.2.1 h.2.2.2.2.2.1 hk h.2.2.2.2.2.2 hs
  have e2 : c.2.2.1 k = lN v := by rw [h.2.2.2.2.1]; exact h2
  exact ⟨v, h1, by unfold nb; rw [e2, lN_i], e2, h3⟩
theorem rFrom (h : TkE kw bt len L c σ) (hk : Rk c.1 k) : σ.2.1 5 k = c.2.1 k := by
  have e := h.2.2.1
  rw [e] at hk
  rw [(h.2.2.2.2.2.1.2 k hk).2.1, h.2.2.2.1]
theorem rK2 (h : TkE kw bt len L c σ) (hk : Rk c.1 k) : (σ.2.1 4 k = 2) ↔ c.1 k = 52 := rKind2 (σ := σ) h hk
theorem rK0 (h : TkE kw bt len L c σ) (hk : Rk c.1 k) : (σ.2.1 4 k = 0) ↔ c.1 k = 53 := rKind0 (σ := σ) h hk
theorem rWr (h : TkE kw bt len L c σ) (hk : Rk c.1 k) {e : Int32} : FX11_wrong e (nI k) σ = some (e, sI σ 3 (c.2.1 k)) := by
  have e2 := h.2.2.1
  rw [e2] at hk
  rw [rWrong h.2.1 h.2.2.2.2.2.1 hk, h.2.2.2.1]
theorem kin (hk : Rk c.1 k) : ¬ (nI k < 0 ∨ 1801 ≤ (nI k).toNatClampNeg) := nI_in (show k < 1801 by have := hk.1; omega) (by decide)
theorem kcl (hk : Rk c.1 k) : (nI k).toNatClampNeg = k := nI_clamp (by have := hk.1; omega)
/-- a new part of the reference -/
def NodeM (nx : Nat) (kd a b t l h pl : Int32) (σ σ' : MS) : Prop := (∀ j, j ≠ 8 → j ≠ 17 → σ'.1 j = σ.1 j) ∧ σ'.1 8 = nI (nx + 1) ∧ σ'.1 17 = nI nx ∧ σ'.2.1 9 nx = kd ∧ σ'.2.1 10 nx = a ∧ σ'.2.1 11 nx = b ∧ σ'.2.1 12 nx = t ∧ σ'.2.1 13 nx = l ∧ σ'.2.1 14 nx = h ∧ σ'.2.1 15 nx = pl ∧ (∀ j, (j < 9 ∨ 15 < j) → σ'.2.1 j = σ.2.1 j) ∧ (∀ q, q ≠ nx → ∀ j, σ'.2.1 j q = σ.2.1 j q) ∧ σ'.2.2 = σ.2.2
theorem rNode1 {kd a b t pl : Int32} (hn : σ.1 8 = nI nx) (hx : nx < 1203) : ∃ σ', FX11_node kd a b t pl σ = some (0, σ') ∧ NodeM nx kd a b t 0 (-1) pl σ σ' := by
  have e1 := nI_in hx (show 1203 < 2 ^ 31 by decide)
  rw [FX11_node, hn, if_neg e1, if_neg e1, if_neg e1, if_neg e1, if_neg e1, if_neg e1, if_neg e1, nI_clamp (by omega), ← nI_succ]
  refine ⟨_, rfl, ?_⟩
  generalize hσ : (sI (sI (sA (sA (sA (sA (sA (sA (sA σ 9 (upd (σ.2.1 9) nx kd)) 10 (upd (σ.2.1 10) nx a)) 11 (upd (σ.2.1 11) nx b)) 12 (upd (σ.2.1 12) nx t)) 13 (upd (σ.2.1 13) nx 0)) 14 (upd (σ.2.1 14) nx (-1))) 15 (upd (σ.2.1 15) nx pl)) 17 (nI nx)) 8 (nI (nx + 1))) = σ'
  have rows : ∀ j q, σ'.2.1 j q = if q = nx then (if j = 9 then kd else if j = 10 then a else if j = 11 then b else if j = 12 then t else if j = 13 then 0 else if j = 14 then -1 else if j = 15 then pl else σ.2.1 j q) else σ.2.1 j q := by
    intro j q
    rw [← hσ]
    simp only [va_up, upd]
    by_cases hq : q = nx
    · subst hq
      by_cases e9 : j = 9
      · subst e9; simp [upd]
      by_cases e10 : j = 10
      · subst e10; simp [upd]
      by_cases e11 : j = 11
      · subst e11; simp [upd]
      by_cases e12 : j = 12
      · subst e12; simp [upd]
      by_cases e13 : j = 13
      · subst e13; simp [upd]
      by_cases e14 : j = 14
      · subst e14; simp [upd]
      by_cases e15 : j = 15
      · subst e15; simp [upd]
      simp [e9, e10, e11, e12, e13, e14, e15]
    · rw [if_neg hq]
      by_cases e9 : j = 9
      · subst e9; simp [upd, hq]
      by_cases e10 : j = 10
      · subst e10; simp [upd, hq]
      by_cases e11 : j = 11
      · subst e11; simp [upd, hq]
      by_cases e12 : j = 12
      · subst e12; simp [upd, hq]
      by_cases e13 : j = 13
      · subst e13; simp [upd, hq]
      by_cases e14 : j = 14
      · subst e14; simp [upd, hq]
      by_cases e15 : j = 15
      · subst e15; simp [upd, hq]
      simp [e9, e10, e11, e12, e13, e14, e15]
  refine ⟨fun j h1 h2 => ?_, ?_, ?_, ?_, ?_, ?_, ?_, ?_, ?_, ?_, fun j hj => ?_, fun q hq j => ?_, by rw [← hσ]⟩
  · rw [← hσ]
    show va_up (va_up σ.1 17 (nI nx)) 8 (nI (nx + 1)) j = _
    rw [up_n h1, up_n h2]
  · rw [← hσ]
    show va_up (va_up σ.1 17 (nI nx)) 8 (nI (nx + 1)) 8 = _
    exact up_s
  · rw [← hσ]
    show va_up (va_up σ.1 17 (nI nx)) 8 (nI (nx + 1)) 17 = _
    rw [up_n (by decide), up_s]
  · rw [rows]; simp
  · rw [rows]; simp
  · rw [rows]; simp
  · rw [rows]; simp
  · rw [rows]; simp
  · rw [rows]; simp
  · rw [rows]; simp
  · funext q
    rw [rows]
    have e9 : j ≠ 9 := by omega
    have e10 : j ≠ 10 := by omega
    have e11 : j ≠ 11 := by omega
    have e12 : j ≠ 12 := by omega
    have e13 : j ≠ 13 := by omega
    have e14 : j ≠ 14 := by omega
    have e15 : j ≠ 15 := by omega
    simp [e9, e10, e11, e12, e13, e14, e15]
  · rw [rows, if_neg hq]
theorem NodeM.bounds {kd a b t l h pl l2 h2 : Int32} (hN : NodeM nx kd a b t l h pl σ σ1) (hx : nx < 1203) : NodeM nx kd a b t l2 h2 pl σ (sA (sA σ1 13 (upd (σ1.2.1 13) nx l2)) 14 (upd (σ1.2.1 14) nx h2)) := by
  obtain ⟨n1, n2, n3, n4, n5, n6, n7, n8, n9, n10, n11, n12, n13⟩ := hN
  generalize hσ : sA (sA σ1 13 (upd (σ1.2.1 13) nx l2)) 14 (upd (σ1.2.1 14) nx h2) = σ'
  have rows : ∀ j q, σ'.2.1 j q = if q = nx then (if j = 13 then l2 else if j = 14 then h2 else σ1.2.1 j q) else σ1.2.1 j q := by
    intro j q
    rw [← hσ]
    simp only [va_up, upd]
    by_cases hq : q = nx
    · subst hq
      by_cases e13 : j = 13
      · subst e13; simp [upd]
      by_cases e14 : j = 14
      · subst e14; simp [upd]
      simp [e13, e14]
    · rw [if_neg hq]
      by_cases e13 : j = 13
      · subst e13; simp [upd, hq]
      by_cases e14 : j = 14
      · subst e14; simp [upd, hq]
      simp [e13, e14]
  refine ⟨fun j a b => by rw [← hσ]; exact n1 j a b, by rw [← hσ]; exact n2, by rw [← hσ]; exact n3, ?_, ?_, ?_, ?_, ?_, ?_, ?_, fun j hj => ?_, fun q hq j => ?_, by rw [← hσ]; exact n13⟩
  · rw [rows]; simp [n4]
  · rw [rows]; simp [n5]
  · rw [rows]; simp [n6]
  · rw [rows]; simp [n7]
  · rw [rows]; simp
  · rw [rows]; simp
  · rw [rows]; simp [n10]
  · funext q
    rw [rows, n11 j hj]
    have e13 : j ≠ 13 := by omega
    have e14 : j ≠ 14 := by omega
    simp [e13, e14]
  · rw [rows, if_neg hq]; exact n12 q hq j
def ExtM (V0 : Nat → Prop) (lo nx : Nat) (σ σ' : MS) : Prop := ∀ q, Vx V0 lo nx q → ∀ j, σ'.2.1 j q = σ.2.1 j q
theorem ExtM.refl : ExtM V0 lo nx σ σ := fun _ _ _ => rfl
theorem ExtM.trans {n2 : Nat} (h : ExtM V0 lo nx σ σ1) (hn : nx ≤ n2) (g : ExtM V0 lo n2 σ1 σ2) : ExtM V0 lo nx σ σ2 := fun q hq j => (g q (hq.le hn) j).trans (h q hq j)
theorem ntM_row {q : Nat} (h : ∀ j, σ1.2.1 j q = σ.2.1 j q) : ntM σ1 q = ntM σ q := by unfold ntM; simp only [h]
theorem ExtM.V {q : Nat} (hT : okT (Vx V0 lo nx) (ntM σ)) (h : ExtM V0 lo nx σ σ1) (hq : Vx V0 lo nx q) : dnV (ntM σ1) q = dnV (ntM σ) q := dnV_table hT (fun n hn => ntM_row (h n hn)) hq
theorem ExtM.R {q : Nat} (hT : okT (Vx V0 lo nx) (ntM σ)) (h : ExtM V0 lo nx σ σ1) (hq : Vx V0 lo nx q) : dnR (ntM σ1) (σ1.2.1 15) q = dnR (ntM σ) (σ.2.1 15) q := dnR_table hT (fun n hn => ⟨ntM_row (h n hn), h n hn 15⟩) hq
def NIM (V0 : Nat → Prop) (lo nx : Nat) (f : Bool) (σ : MS) (a : Int32) (D : Den) : Prop := ∃ q, a = nI q ∧ Vx V0 lo nx q ∧ dnV (ntM σ) q = D.1 ∧ (f = true → dnR (ntM σ) (σ.2.1 15) q = D.2 ∧ BlD D)
theorem NIM.ext {f : Bool} {a : Int32} {D : Den} {n2 : Nat} (h : NIM V0 lo nx f σ a D) (hT : okT (Vx V0 lo nx) (ntM σ)) (g : ExtM V0 lo nx σ σ1) (hn : nx ≤ n2) : NIM V0 lo n2 f σ1 a D := by
  obtain ⟨q, e, hq, h1, h2⟩ := h
  exact ⟨q, e, hq.le hn, by rw [g.V hT hq]; exact h1, fun hf => by rw [g.R hT hq]; exact h2 hf⟩
theorem NIM.same {f : Bool} {a : Int32} {D : Den} (h : NIM V0 lo nx f σ a D) (e : σ1.2.1 = σ.2.1) : NIM V0 lo nx f σ1 a D := by
  obtain ⟨q, e1, hq, h1, h2⟩ := h
  have q1 : ntM σ1 = ntM σ := by unfold ntM; rw [e]
  exact ⟨q, e1, hq, by rw [q1]; exact h1, fun hf => by rw [q1, e]; exact h2 hf⟩
theorem NIM.weak {f : Bool} {a : Int32} {D : Den} (h : NIM V0 lo nx f σ a D) : NIM V0 lo nx false σ a D := by
  obtain ⟨q, e1, hq, h1, h2⟩ := h
  exact ⟨q, e1, hq, h1, fun hf => by cases hf⟩
/-- what an operator asks of its operands -/
def OpM (V0 : Nat → Prop) (lo nx : Nat) (σ : MS) (kd pl a b t l h : Int32) (f f1 f2 : Bool) (D1 D2 D3 : Den) (R : Rz) : Prop := isK kd = true ∧ (us1 kd = true → NIM V0 lo nx f1 σ a D1) ∧ (us2 kd = true → NIM V0 lo nx f2 σ b D2) ∧ (us3 kd = true → NIM V0 lo nx false σ t D3) ∧ (kd = 21 → ∃ m, m < 8 ∧ a = nI m) ∧ (kd = 34 → t = 0 ∨ t = 1 ∨ t = 2 ∨ t = 3 ∨ t = 4) ∧ (f = true → isF kd ∧ ∀ A ra rb, (us1 kd = true → A = D1.1 ∧ (f1 = true → ra = D1.2)) → (us2 kd = true → f2 = true → rb = D2.2) → oR kd l h pl A ra rb = R)
theorem mkM {kd pl a b t l h : Int32} {D1 D2 D3 : Den} {f f1 f2 : Bool} {R : Rz} (hV : ∀ q, V0 q → q < lo) (hI : CMm V0 lo nx σ) (hlo : lo + 400 ≤ 1203) (hx : nx < lo + 400) (hN : NodeM nx kd a b t l h pl σ σ1) (hO : OpM V0 lo nx σ kd pl a b t l h f f1 f2 D1 D2 D3 R) : CMm V0 lo (nx + 1) σ1 ∧ ExtM V0 lo nx σ σ1 ∧ NIM V0 lo (nx + 1) f σ1 (σ1.1 17) (oV kd a l h t D1.1 D2.1 D3.1, R) := by
  obtain ⟨c1, c2, c3, c4⟩ := hI
  obtain ⟨n1, n2, n3, n4, n5, n6, n7, n8, n9, n10, n11, n12, n13⟩ := hN
  obtain ⟨hk, i1, i2, i3, hs, hb, hR⟩ := hO
  have lt : ∀ {q}, Vx V0 lo nx q → q < nx := fun {q} hq => hq.elim (fun e => by have := hV q e; omega) (fun e => e.2)
  have hE : ExtM V0 lo nx σ σ1 := fun q hq j => n12 q (by have := lt hq; omega) j
  have hrow : ntM σ1 nx = (kd, a, b, t, l, h) := by unfold ntM; rw [n4, n5, n6, n7, n8, n9]
  have hself : Vx V0 lo (nx + 1) nx := Or.inr ⟨c2, by omega⟩
  have hT : okT (Vx V0 lo (nx + 1)) (ntM σ1) := by
    intro n hn
    by_cases e : n = nx
    · subst e
      refine ⟨by omega, ?_⟩
      rw [hrow]
      refine ⟨hk, fun u => ?_, fun u => ?_, fun u => ?_, hs⟩
      · obtain ⟨q, e, hq, -⟩ := i1 u; exact ⟨q, hq.le (by omega), lt hq, e⟩
      · obtain ⟨q, e, hq, -⟩ := i2 u; exact ⟨q, hq.le (by omega), lt hq, e⟩
      · obtain ⟨q, e, hq, -⟩ := i3 u; exact ⟨q, hq.le (by omega), lt hq, e⟩
    · have hn2 : Vx V0 lo nx n := hn.elim Or.inl (fun g => Or.inr ⟨g.1, by omega⟩)
      refine ⟨(c3 n hn2).1, ?_⟩
      rw [ntM_row (hE n hn2)]
      exact (c3 n hn2).2.mono (fun m hm => hm.le (by omega))
  refine ⟨⟨n2, by omega, hT, fun q hq => ?_⟩, hE, nx, n3, hself, ?_, fun hf => ⟨?_, fun hh i => ?_⟩⟩
  · by_cases e : q = nx
    · subst e
      unfold okB
      rw [hrow]; exact hb
    · have hq2 : Vx V0 lo nx q := hq.elim Or.inl (fun g => Or.inr ⟨g.1, by omega⟩)
      rw [ntM_row (hE q hq2)]
      exact c4 q hq2
  · rw [dnV_eq hT hself, hrow]
    refine oV_congr hk (fun _ => rfl) (fun _ => ⟨rfl, rfl⟩) (fun _ => rfl) (fun u => ?_) (fun u => ?_) (fun u => ?_)
    · obtain ⟨q, e, hq, h1, -⟩ := i1 u
      show dnV (ntM σ1) a.toNatClampNeg = D1.1
      rw [e, nI_clamp (by have := lt hq; omega), hE.V c3 hq, h1]
    · obtain ⟨q, e, hq, h1, -⟩ := i2 u
      show dnV (ntM σ1) b.toNatClampNeg = D2.1
      rw [e, nI_clamp (by have := lt hq; omega), hE.V c3 hq, h1]
    · obtain ⟨q, e, hq, h1, -⟩ := i3 u
      show dnV (ntM σ1) t.toNatClampNeg = D3.1
      rw [e, nI_clamp (by have := lt hq; omega), hE.V c3 hq, h1]
  · rw [dnR_eq hT hself, hrow]
    show oR kd l h (σ1.2.1 15 nx) (dnV (ntM σ1) a.toNatClampNeg) (dnR (ntM σ1) (σ1.2.1 15) a.toNatClampNeg) (dnR (ntM σ1) (σ1.2.1 15) b.toNatClampNeg) = R
    rw [n10]
    refine (hR hf).2 _ _ _ (fun u => ?_) (fun u hf2 => ?_)
    · obtain ⟨q, e, hq, h1, h2⟩ := i1 u
      rw [e, nI_clamp (by have := lt hq; omega), hE.V c3 hq, hE.R c3 hq]
      exact ⟨h1, fun hf1 => (h2 hf1).1⟩
    · obtain ⟨q, e, hq, h1, h2⟩ := i2 u
      rw [e, nI_clamp (by have := lt hq; omega), hE.R c3 hq]
      exact (h2 hf2).1
  · exact opV_bool (hR hf).1
theorem FrM.node {kd a b t l h pl : Int32} (hF : FrM σ0 lo σ) (hN : NodeM nx kd a b t l h pl σ σ1) (hl : lo ≤ nx) : FrM σ0 lo σ1 := by
  obtain ⟨n1, n2, n3, n4, n5, n6, n7, n8, n9, n10, n11, n12, n13⟩ := hN
  exact ⟨fun j a b d e f g => (n1 j d e).trans (hF.1 j a b d e f g), fun j hj => (n11 j hj).trans (hF.2.1 j hj), fun j q hq => (n12 q (by omega) j).trans (hF.2.2.1 j q hq), n13.trans hF.2.2.2⟩
/-- behind a part that is made -/
theorem nodeSM {kd pl a b t l h : Int32} {D1 D2 D3 : Den} {f f1 f2 : Bool} {R : Rz} (hc : CtM kw bt len c σ0 V0 lo L) (hS : SM c σ0 V0 lo nx k σ) (hx : nx + 1 ≤ lo + k) (hN : NodeM nx kd a b t l h pl σ σ1) (hO : OpM V0 lo nx σ kd pl a b t l h f f1 f2 D1 D2 D3 R) : SM c σ0 V0 lo (nx + 1) k σ1 ∧ NIM V0 lo (nx + 1) f σ1 (σ1.1 17) (oV kd a l h t D1.1 D2.1 D3.1, R) ∧ ExtM V0 lo nx σ σ1 := by
  obtain ⟨s1, s2, s3, s4, s5⟩ := hS
  have hk := s3.1
  obtain ⟨m1, m2, m3⟩ := mkM hc.2.2.1 s4 hc.2.1 (show nx < lo + 400 by omega) hN hO
  exact ⟨⟨s1.node hN s4.2.1, by rw [hN.1 7 (by decide) (by decide)]; exact s2, s3, m1, hx, by rw [hN.1 3 (by decide) (by decide)]; exact s5.2⟩, m3, m2⟩
/-- what was made is new -/
def LoA (lo : Nat) (a : Int32) : Prop := ∃ q, a = nI q ∧ lo ≤ q ∧ q < 2000
/-- a piece has been read a second time -/
def PM (c : Cx) (σ0 : MS) (V0 : Nat → Prop) (lo : Nat) (f : Bool) (nx k : Nat) (σ : MS) (k' : Nat) (m : MV) (err : Int32) (σ' : MS) : Prop := match m with
  | .error e => err = e.1 ∧ e.1 ≠ 0 ∧ σ'.1 3 = e.2 ∧ FrM σ0 lo σ'
  | .ok D => err = 0 ∧ ∃ nx', nx ≤ nx' ∧ nx' + k ≤ nx + k' ∧ SM c σ0 V0 lo nx' k' σ' ∧ (NIM V0 lo nx' f σ' (σ'.1 17) D ∧ LoA lo (σ'.1 17)) ∧ ExtM V0 lo nx σ σ'
end MP
