-- the law's parts: lets that are as the grammar has them
theorem slen : ∀ w, w < 93 → 72 ≤ w → (SB w).length ≤ 10 := by decide +kernel
section PP
variable {σ : LwS} {B : List Int32} {N k s a b lo hi e m : Nat} {xs : Nat → Int32} {x2 x7 x8 x14 : Int32} {k111 : Int32 → Int32 → Int32 → LwS → Option (Int32 × LwS)} {bd : Bool}
theorem put_s (h : Rw (σ.2 0) B) {w : Nat} (hw : w < 93) (hw2 : 72 ≤ w) (hB : B.length ≤ 1600) : ∃ σ', FL_put LF w σ = some ((), σ') ∧ σ'.1 = σ.1 ∧ Rw (σ'.2 0) (B ++ SB w) ∧ (B ++ SB w).length ≤ B.length + 10 := by
  have hl := slen w hw hw2
  obtain ⟨σ', a, b, c⟩ := put_ok h (w := w) (by omega) (by omega) (by omega)
  exact ⟨σ', a, b, c, by rw [List.length_append]; omega⟩
theorem put_d (h : Rw (σ.2 0) B) (ha : a < 10) (hB : B.length ≤ 1600) : ∃ σ', FL_put_ (nI a) σ = some ((), σ') ∧ σ'.1 = σ.1 ∧ Rw (σ'.2 0) (B ++ [dgt a]) ∧ (B ++ [dgt a]).length ≤ B.length + 1 := by
  obtain ⟨σ', x, y, z⟩ := putd_ok h ha (by omega)
  exact ⟨σ', x, y, z, by rw [List.length_append]; exact Nat.le_refl _⟩
theorem p487 (h : Rw (σ.2 0) B) (hB : B.length ≤ 1500) : ∃ σ', FL_parts_487 LF N xs k111 x2 x7 x8 σ = k111 x2 x7 (x8 + 1) σ' ∧ σ'.1 = σ.1 ∧ Rw (σ'.2 0) (B ++ SB 92) ∧ (B ++ SB 92).length ≤ B.length + 10 := by
  obtain ⟨σ1, e1, a1, r1, l1⟩ := put_s h (w := 92) (by decide) (by decide) (by omega)
  exact ⟨σ1, by rw [FL_parts_487, e1, b2r], a1, r1, l1⟩
theorem p484 (h : Rw (σ.2 0) B) (hB : B.length ≤ 1400) (he : e < 10) : ∃ σ', FL_parts_484 LF N xs k111 x2 x7 x8 (nI e) σ = k111 x2 x7 (x8 + 1) σ' ∧ σ'.1 = σ.1 ∧ Rw (σ'.2 0) (B ++ [dgt e] ++ SB 92) ∧ (B ++ [dgt e] ++ SB 92).length ≤ B.length + 11 := by
  obtain ⟨σ1, e1, a1, r1, l1⟩ := put_d h he (by omega)
  obtain ⟨σ2, e2, a2, r2, l2⟩ := p487 (N := N) (xs := xs) (k111 := k111) (x2 := x2) (x7 := x7) (x8 := x8) r1 (by omega)
  exact ⟨σ2, by rw [FL_parts_484, e1, b2r, e2], a2.trans a1, r2, by omega⟩
theorem p464 (h : Rw (σ.2 0) B) (hB : B.length ≤ 1300) (hs : s < 10) (he : e < 10) (hab : (if s ≤ 5 then a else b) = e) : ∃ σ', FL_parts_464 LF N xs k111 x2 x7 x8 (nI s) (nI a) (nI b) σ = k111 x2 x7 (x8 + 1) σ' ∧ σ'.1 = σ.1 ∧ Rw (σ'.2 0) (B ++ SB 88 ++ [dgt e] ++ SB 92) ∧ (B ++ SB 88 ++ [dgt e] ++ SB 92).length ≤ B.length + 21 := by
  obtain ⟨σ1, e1, a1, r1, l1⟩ := put_s h (w := 88) (by decide) (by decide) (by omega)
  obtain ⟨σ2, e2, a2, r2, l2⟩ := p484 (N := N) (xs := xs) (k111 := k111) (x2 := x2) (x7 := x7) (x8 := x8) r1 (by omega) he
  refine ⟨σ2, ?_, a2.trans a1, r2, by omega⟩
  rw [FL_parts_464, e1, b2r, show (5 : Int32) = nI 5 from rfl]
  by_cases z : s ≤ 5
  · rw [if_pos z] at hab
    rw [if_pos (nI_le z (by decide)), hab]; exact e2
  · rw [if_neg z] at hab
    rw [if_neg (by rw [nI_leI (by omega) (by decide)]; exact z), hab]; exact e2
/-- the bounds' text as the law writes it -/
def bdS (bd : Bool) (lo hi : Nat) : List Int32 := if bd then SB 89 ++ [dgt lo] ++ SB 90 ++ [dgt hi] ++ SB 91 else []
theorem p420 (h : Rw (σ.2 0) B) (hB : B.length ≤ 1200) (hs : s < 10) (he : e < 10) (hab : (if s ≤ 5 then a else b) = e) (hlo : lo < 10) (hh : bd = true → hi < 10 ∧ x14 = nI hi) : ∃ σ', FL_parts_420 LF N xs k111 x2 x7 x8 (nI s) (nI a) (nI b) (nI lo) x14 (bI bd) σ = k111 x2 x7 (x8 + 1) σ' ∧ σ'.1 = σ.1 ∧ Rw (σ'.2 0) (B ++ SB (76 + s) ++ bdS bd lo hi ++ SB 88 ++ [dgt e] ++ SB 92) ∧ (B ++ SB (76 + s) ++ bdS bd lo hi ++ SB 88 ++ [dgt e] ++ SB 92).length ≤ B.length + 70 := by
  obtain ⟨σ1, e1, a1, r1, l1⟩ := put_s h (w := 76 + s) (by omega) (by omega) (by omega)
  rw [FL_parts_420, if_neg (nI_in (show s < 10 by omega) (by decide)), nI_clamp (by omega), e1, b2r]
  cases bd with
  | false =>
    obtain ⟨σ2, e2, a2, r2, l2⟩ := p464 (N := N) (xs := xs) (k111 := k111) (x2 := x2) (x7 := x7) (x8 := x8) r1 (by omega) hs he hab
    refine ⟨σ2, ?_, a2.trans a1, ?_, ?_⟩
    · rw [if_pos (show bI false = 0 from rfl)]; exact e2
    · show Rw (σ2.2 0) (B ++ SB (76 + s) ++ [] ++ SB 88 ++ [dgt e] ++ SB 92)
      rw [List.append_nil]; exact r2
    · show (B ++ SB (76 + s) ++ [] ++ SB 88 ++ [dgt e] ++ SB 92).length ≤ _
      rw [List.append_nil]; omega
  | true =>
    obtain ⟨hh1, hh2⟩ := hh rfl
    obtain ⟨σ2, e2, a2, r2, l2⟩ := put_s r1 (w := 89) (by decide) (by decide) (by omega)
    obtain ⟨σ3, e3, a3, r3, l3⟩ := put_d r2 hlo (by omega)
    obtain ⟨σ4, e4, a4, r4, l4⟩ := put_s r3 (w := 90) (by decide) (by decide) (by omega)
    obtain ⟨σ5, e5, a5, r5, l5⟩ := put_d r4 hh1 (by omega)
    obtain ⟨σ6, e6, a6, r6, l6⟩ := put_s r5 (w := 91) (by decide) (by decide) (by omega)
    obtain ⟨σ7, e7, a7, r7, l7⟩ := p464 (N := N) (xs := xs) (k111 := k111) (x2 := x2) (x7 := x7) (x8 := x8) r6 (by omega) hs he hab
    have et : B ++ SB (76 + s) ++ bdS true lo hi = B ++ SB (76 + s) ++ SB 89 ++ [dgt lo] ++ SB 90 ++ [dgt hi] ++ SB 91 := by
      show B ++ SB (76 + s) ++ (SB 89 ++ [dgt lo] ++ SB 90 ++ [dgt hi] ++ SB 91) = _
      simp only [List.append_assoc]
    refine ⟨σ7, ?_, a7.trans (a6.trans (a5.trans (a4.trans (a3.trans (a2.trans a1))))), by rw [et]; exact r7, by rw [et]; omega⟩
    rw [if_neg (show ¬ bI true = 0 by decide), e2, b2r, e3, b2r, e4, b2r, hh2, e5, b2r, e6, b2r]
    exact e7
theorem k335 {x10 x11 x12 x13 x15 : Int32} (hk : k < 10) : ∀ (d i q : Nat) (xc : Nat → Int32) (σ : LwS), i + d = 5 → d < q → ∃ σ', FL_parts_335 LF N xs k111 q x2 x7 (nI k) x10 x11 x12 x13 x14 x15 (nI i) xc σ = FL_parts_335 LF N xs k111 (q - d) x2 x7 (nI k) x10 x11 x12 x13 x14 x15 (nI 5) xc σ' ∧ σ'.1 = σ.1 ∧ σ'.2 0 = σ.2 0
  | 0, i, q, xc, σ, hi, hq => ⟨σ, by rw [show i = 5 by omega, Nat.sub_zero], rfl, rfl⟩
  | d+1, i, q, xc, σ, hi, hq => by
    obtain ⟨q, rfl⟩ : ∃ z, q = z + 1 := ⟨q - 1, by omega⟩
    have ei : (5 : Int32) * nI k + nI i = nI (5 * k + i) := by rw [show (5 : Int32) = nI 5 from rfl, nI_mul, nI_add]
    obtain ⟨σ', a, b, c⟩ := k335 (x10 := x10) (x11 := x11) (x12 := x12) (x13 := x13) (x15 := x15) hk d (i + 1) q xc (rR σ 1 (upd (σ.2 1) (5 * k + i) (xc i))) (by omega) (by omega)
    refine ⟨σ', ?_, b, c.trans ?_⟩
    · rw [FL_parts_335, if_neg (by rw [show (5 : Int32) = nI 5 from rfl, nI_leI (by omega) (by omega)]; omega), if_neg (nI_in (show i < 5 by omega) (by decide)), ei, if_neg (nI_in (show 5 * k + i < 60 by omega) (by decide)), nI_clamp (by omega), nI_clamp (by omega), ← nI_succ, show q + 1 - (d + 1) = q - d by omega]
      exact a
    · show va_up σ.2 1 (upd (σ.2 1) (5 * k + i) (xc i)) 0 = σ.2 0
      exact up_n (by decide)
/-- a let, as the law writes it -/
theorem p335 (h : Rw (σ.2 0) B) (hB : B.length ≤ 1000) {q : Nat} (hq : 5 < q) {xc : Nat → Int32} (hk : k < 6) (hs : s < 14) (hs2 : s < 10 → a < k ∧ b < k) (hlo : lo < 10) (hh : bd = true → (s = 4 ∨ s = 5 ∨ s = 6) ∧ lo ≤ hi ∧ hi < 10 ∧ x14 = nI hi) : ∃ σ' A, FL_parts_335 LF N xs k111 q x2 x7 (nI k) (nI s) (nI a) (nI b) (nI lo) x14 (bI bd) 0 xc σ = k111 x2 x7 (nI (k + 1)) σ' ∧ σ'.1 = σ.1 ∧ Rw (σ'.2 0) (B ++ A) ∧ (B ++ A).length ≤ B.length + 110 ∧ ItOK k A := by
  obtain ⟨σ0, e0, a0, r0⟩ := k335 (x2 := x2) (x7 := x7) (x14 := x14) (x10 := nI s) (x11 := nI a) (x12 := nI b) (x13 := nI lo) (x15 := bI bd) (N := N) (xs := xs) (k111 := k111) (show k < 10 by omega) 5 0 q xc σ rfl hq
  have e0 : FL_parts_335 LF N xs k111 q x2 x7 (nI k) (nI s) (nI a) (nI b) (nI lo) x14 (bI bd) 0 xc σ = _ := e0
  rw [← r0] at h
  obtain ⟨q', hq'⟩ : ∃ z, q - 5 = z + 1 := ⟨q - 5 - 1, by omega⟩
  obtain ⟨σ1, e1, a1, r1, l1⟩ := put_s h (w := 86) (by decide) (by decide) (by omega)
  obtain ⟨σ2, e2, a2, r2, l2⟩ := put_d r1 (show k < 10 by omega) (by omega)
  obtain ⟨σ3, e3, a3, r3, l3⟩ := put_s r2 (w := 87) (by decide) (by decide) (by omega)
  have a30 : σ3.1 = σ.1 := a3.trans (a2.trans (a1.trans a0))
  rw [e0, hq', FL_parts_335, if_pos (by decide), e1, b2r, e2, b2r, e3, b2r, show (9 : Int32) = nI 9 from rfl, show (5 : Int32) = nI 5 from rfl, show nI (k + 1) = nI k + 1 from (nI_add k 1).symm]
  by_cases z9 : s ≤ 9
  · rw [if_pos (nI_le z9 (by decide))]
    obtain ⟨ha, hb⟩ := hs2 (by omega)
    by_cases z5 : s ≤ 5
    · rw [if_pos (nI_le z5 (by decide))]
      obtain ⟨σ4, e4, a4, r4, l4⟩ := p420 (N := N) (xs := xs) (k111 := k111) (x2 := x2) (x7 := x7) (x8 := nI k) (a := a) (b := b) (e := a) (s := s) (lo := lo) (hi := hi) (bd := bd) (x14 := x14) r3 (by omega) (by omega) (by omega) (if_pos z5) hlo (fun y => ⟨(hh y).2.2.1, (hh y).2.2.2⟩)
      have hs6 : s = 0 ∨ s = 1 ∨ s = 2 ∨ s = 3 ∨ s = 4 ∨ s = 5 := by omega
      cases bd with
      | false =>
        rcases hs6 with rfl | rfl | rfl | rfl | rfl | rfl
        · exact ⟨σ4, hdT k ++ (tFr0 ++ (tIs ++ gLs a)), e4, a4.trans a30, by rw [show B ++ (hdT k ++ (tFr0 ++ (tIs ++ gLs a))) = B ++ SB 86 ++ [dgt k] ++ SB 87 ++ SB (76 + 0) ++ bdS false lo hi ++ SB 88 ++ [dgt a] ++ SB 92 by simp only [List.append_assoc]; rfl]; exact r4, by rw [show B ++ (hdT k ++ (tFr0 ++ (tIs ++ gLs a))) = B ++ SB 86 ++ [dgt k] ++ SB 87 ++ SB (76 + 0) ++ bdS false lo hi ++ SB 88 ++ [dgt a] ++ SB 92 by simp only [List.append_assoc]; rfl]; omega, i_fr0 (by omega) ha⟩
        · exact ⟨σ4, hdT k ++ (tFr1 ++ (tIs ++ gLs a)), e4, a4.trans a30, by rw [show B ++ (hdT k ++ (tFr1 ++ (tIs ++ gLs a))) = B ++ SB 86 ++ [dgt k] ++ SB 87 ++ SB (76 + 1) ++ bdS false lo hi ++ SB 88 ++ [dgt a] ++ SB 92 by simp only [List.append_assoc]; rfl]; exact r4, by rw [show B ++ (hdT k ++ (tFr1 ++ (tIs ++ gLs a))) = B ++ SB 86 ++ [dgt k] ++ SB 87 ++ SB (76 + 1) ++ bdS false lo hi ++ SB 88 ++ [dgt a] ++ SB 92 by simp only [List.append_assoc]; rfl]; omega, i_fr1 (by omega) ha⟩
        · exact ⟨σ4, hdT k ++ (tFr2 ++ (tIs ++ gLs a)), e4, a4.trans a30, by rw [show B ++ (hdT k ++ (tFr2 ++ (tIs ++ gLs a))) = B ++ SB 86 ++ [dgt k] ++ SB 87 ++ SB (76 + 2) ++ bdS false lo hi ++ SB 88 ++ [dgt a] ++ SB 92 by simp only [List.append_assoc]; rfl]; exact r4, by rw [show B ++ (hdT k ++ (tFr2 ++ (tIs ++ gLs a))) = B ++ SB 86 ++ [dgt k] ++ SB 87 ++ SB (76 + 2) ++ bdS false lo hi ++ SB 88 ++ [dgt a] ++ SB 92 by simp only [List.append_assoc]; rfl]; omega, i_fr2 (by omega) ha⟩
        · exact ⟨σ4, hdT k ++ (tFr3 ++ (tIs ++ gLs a)), e4, a4.trans a30, by rw [show B ++ (hdT k ++ (tFr3 ++ (tIs ++ gLs a))) = B ++ SB 86 ++ [dgt k] ++ SB 87 ++ SB (76 + 3) ++ bdS false lo hi ++ SB 88 ++ [dgt a] ++ SB 92 by simp only [List.append_assoc]; rfl]; exact r4, by rw [show B ++ (hdT k ++ (tFr3 ++ (tIs ++ gLs a))) = B ++ SB 86 ++ [dgt k] ++ SB 87 ++ SB (76 + 3) ++ bdS false lo hi ++ SB 88 ++ [dgt a] ++ SB 92 by simp only [List.append_assoc]; rfl]; omega, i_fr3 (by omega) ha⟩
        · exact ⟨σ4, hdT k ++ (tFr4 ++ (tIs ++ gLs a)), e4, a4.trans a30, by rw [show B ++ (hdT k ++ (tFr4 ++ (tIs ++ gLs a))) = B ++ SB 86 ++ [dgt k] ++ SB 87 ++ SB (76 + 4) ++ bdS false lo hi ++ SB 88 ++ [dgt a] ++ SB 92 by simp only [List.append_assoc]; rfl]; exact r4, by rw [show B ++ (hdT k ++ (tFr4 ++ (tIs ++ gLs a))) = B ++ SB 86 ++ [dgt k] ++ SB 87 ++ SB (76 + 4) ++ bdS false lo hi ++ SB 88 ++ [dgt a] ++ SB 92 by simp only [List.append_assoc]; rfl]; omega, i_fr4 (by omega) ha⟩
        · exact ⟨σ4, hdT k ++ (tFr5 ++ (tIs ++ gLs a)), e4, a4.trans a30, by rw [show B ++ (hdT k ++ (tFr5 ++ (tIs ++ gLs a))) = B ++ SB 86 ++ [dgt k] ++ SB 87 ++ SB (76 + 5) ++ bdS false lo hi ++ SB 88 ++ [dgt a] ++ SB 92 by simp only [List.append_assoc]; rfl]; exact r4, by rw [show B ++ (hdT k ++ (tFr5 ++ (tIs ++ gLs a))) = B ++ SB 86 ++ [dgt k] ++ SB 87 ++ SB (76 + 5) ++ bdS false lo hi ++ SB 88 ++ [dgt a] ++ SB 92 by simp only [List.append_assoc]; rfl]; omega, i_fr5 (by omega) ha⟩
      | true =>
        obtain ⟨h4, h5, h6, h7⟩ := hh rfl
        have hs2 : s = 4 ∨ s = 5 := by omega
        rcases hs2 with rfl | rfl
        · exact ⟨σ4, hdT k ++ (tFr4 ++ ((gOp lo ++ (tDots ++ gCl hi)) ++ (tIs ++ gLs a))), e4, a4.trans a30, by rw [show B ++ (hdT k ++ (tFr4 ++ ((gOp lo ++ (tDots ++ gCl hi)) ++ (tIs ++ gLs a)))) = B ++ SB 86 ++ [dgt k] ++ SB 87 ++ SB (76 + 4) ++ bdS true lo hi ++ SB 88 ++ [dgt a] ++ SB 92 by simp only [List.append_assoc]; rfl]; exact r4, by rw [show B ++ (hdT k ++ (tFr4 ++ ((gOp lo ++ (tDots ++ gCl hi)) ++ (tIs ++ gLs a)))) = B ++ SB 86 ++ [dgt k] ++ SB 87 ++ SB (76 + 4) ++ bdS true lo hi ++ SB 88 ++ [dgt a] ++ SB 92 by simp only [List.append_assoc]; rfl]; omega, i_fb4 (by omega) ha h5 h6⟩
        · exact ⟨σ4, hdT k ++ (tFr5 ++ ((gOp lo ++ (tDots ++ gCl hi)) ++ (tIs ++ gLs a))), e4, a4.trans a30, by rw [show B ++ (hdT k ++ (tFr5 ++ ((gOp lo ++ (tDots ++ gCl hi)) ++ (tIs ++ gLs a)))) = B ++ SB 86 ++ [dgt k] ++ SB 87 ++ SB (76 + 5) ++ bdS true lo hi ++ SB 88 ++ [dgt a] ++ SB 92 by simp only [List.append_assoc]; rfl]; exact r4, by rw [show B ++ (hdT k ++ (tFr5 ++ ((gOp lo ++ (tDots ++ gCl hi)) ++ (tIs ++ gLs a)))) = B ++ SB 86 ++ [dgt k] ++ SB 87 ++ SB (76 + 5) ++ bdS true lo hi ++ SB 88 ++ [dgt a] ++ SB 92 by simp only [List.append_assoc]; rfl]; omega, i_fb5 (by omega) ha h5 h6⟩
    · rw [if_neg (by rw [nI_leI (by omega) (by decide)]; exact z5)]
      obtain ⟨σ4, e4, a4, r4, l4⟩ := put_s r3 (w := 88) (by decide) (by decide) (by omega)
      obtain ⟨σ5, e5, a5, r5, l5⟩ := put_d r4 (show a < 10 by omega) (by omega)
      rw [e4, b2r, e5, b2r]
      obtain ⟨σ6, e6, a6, r6, l6⟩ := p420 (N := N) (xs := xs) (k111 := k111) (x2 := x2) (x7 := x7) (x8 := nI k) (a := a) (b := b) (e := b) (s := s) (lo := lo) (hi := hi) (bd := bd) (x14 := x14) r5 (by omega) (by omega) (by omega) (if_neg z5) hlo (fun y => ⟨(hh y).2.2.1, (hh y).2.2.2⟩)
      have a60 : σ6.1 = σ.1 := a6.trans (a5.trans (a4.trans a30))
      have hs4 : s = 6 ∨ s = 7 ∨ s = 8 ∨ s = 9 := by omega
      cases bd with
      | false =>
        rcases hs4 with rfl | rfl | rfl | rfl
        · exact ⟨σ6, hdT k ++ ((tIs ++ gLa a) ++ (tMi0 ++ (tIs ++ gLs b))), e6, a60, by rw [show B ++ (hdT k ++ ((tIs ++ gLa a) ++ (tMi0 ++ (tIs ++ gLs b)))) = B ++ SB 86 ++ [dgt k] ++ SB 87 ++ SB 88 ++ [dgt a] ++ SB (76 + 6) ++ bdS false lo hi ++ SB 88 ++ [dgt b] ++ SB 92 by simp only [List.append_assoc]; rfl]; exact r6, by rw [show B ++ (hdT k ++ ((tIs ++ gLa a) ++ (tMi0 ++ (tIs ++ gLs b)))) = B ++ SB 86 ++ [dgt k] ++ SB 87 ++ SB 88 ++ [dgt a] ++ SB (76 + 6) ++ bdS false lo hi ++ SB 88 ++ [dgt b] ++ SB 92 by simp only [List.append_assoc]; rfl]; omega, i_mi0 (by omega) ha hb⟩
        · exact ⟨σ6, hdT k ++ ((tIs ++ gLa a) ++ (tMi1 ++ (tIs ++ gLs b))), e6, a60, by rw [show B ++ (hdT k ++ ((tIs ++ gLa a) ++ (tMi1 ++ (tIs ++ gLs b)))) = B ++ SB 86 ++ [dgt k] ++ SB 87 ++ SB 88 ++ [dgt a] ++ SB (76 + 7) ++ bdS false lo hi ++ SB 88 ++ [dgt b] ++ SB 92 by simp only [List.append_assoc]; rfl]; exact r6, by rw [show B ++ (hdT k ++ ((tIs ++ gLa a) ++ (tMi1 ++ (tIs ++ gLs b)))) = B ++ SB 86 ++ [dgt k] ++ SB 87 ++ SB 88 ++ [dgt a] ++ SB (76 + 7) ++ bdS false lo hi ++ SB 88 ++ [dgt b] ++ SB 92 by simp only [List.append_assoc]; rfl]; omega, i_mi1 (by omega) ha hb⟩
        · exact ⟨σ6, hdT k ++ ((tIs ++ gLa a) ++ (tMi2 ++ (tIs ++ gLs b))), e6, a60, by rw [show B ++ (hdT k ++ ((tIs ++ gLa a) ++ (tMi2 ++ (tIs ++ gLs b)))) = B ++ SB 86 ++ [dgt k] ++ SB 87 ++ SB 88 ++ [dgt a] ++ SB (76 + 8) ++ bdS false lo hi ++ SB 88 ++ [dgt b] ++ SB 92 by simp only [List.append_assoc]; rfl]; exact r6, by rw [show B ++ (hdT k ++ ((tIs ++ gLa a) ++ (tMi2 ++ (tIs ++ gLs b)))) = B ++ SB 86 ++ [dgt k] ++ SB 87 ++ SB 88 ++ [dgt a] ++ SB (76 + 8) ++ bdS false lo hi ++ SB 88 ++ [dgt b] ++ SB 92 by simp only [List.append_assoc]; rfl]; omega, i_mi2 (by omega) ha hb⟩
        · exact ⟨σ6, hdT k ++ ((tIs ++ gLa a) ++ (tMi3 ++ (tIs ++ gLs b))), e6, a60, by rw [show B ++ (hdT k ++ ((tIs ++ gLa a) ++ (tMi3 ++ (tIs ++ gLs b)))) = B ++ SB 86 ++ [dgt k] ++ SB 87 ++ SB 88 ++ [dgt a] ++ SB (76 + 9) ++ bdS false lo hi ++ SB 88 ++ [dgt b] ++ SB 92 by simp only [List.append_assoc]; rfl]; exact r6, by rw [show B ++ (hdT k ++ ((tIs ++ gLa a) ++ (tMi3 ++ (tIs ++ gLs b)))) = B ++ SB 86 ++ [dgt k] ++ SB 87 ++ SB 88 ++ [dgt a] ++ SB (76 + 9) ++ bdS false lo hi ++ SB 88 ++ [dgt b] ++ SB 92 by simp only [List.append_assoc]; rfl]; omega, i_mi3 (by omega) ha hb⟩
      | true =>
        obtain ⟨h4, h5, h6, h7⟩ := hh rfl
        have hs2 : s = 6 := by omega
        subst hs2
        exact ⟨σ6, hdT k ++ ((tIs ++ gLa a) ++ (tMi0 ++ ((gOp lo ++ (tDots ++ gCl hi)) ++ (tIs ++ gLs b)))), e6, a60, by rw [show B ++ (hdT k ++ ((tIs ++ gLa a) ++ (tMi0 ++ ((gOp lo ++ (tDots ++ gCl hi)) ++ (tIs ++ gLs b))))) = B ++ SB 86 ++ [dgt k] ++ SB 87 ++ SB 88 ++ [dgt a] ++ SB (76 + 6) ++ bdS true lo hi ++ SB 88 ++ [dgt b] ++ SB 92 by simp only [List.append_assoc]; rfl]; exact r6, by rw [show B ++ (hdT k ++ ((tIs ++ gLa a) ++ (tMi0 ++ ((gOp lo ++ (tDots ++ gCl hi)) ++ (tIs ++ gLs b))))) = B ++ SB 86 ++ [dgt k] ++ SB 87 ++ SB 88 ++ [dgt a] ++ SB (76 + 6) ++ bdS true lo hi ++ SB 88 ++ [dgt b] ++ SB 92 by simp only [List.append_assoc]; rfl]; omega, i_mb (by omega) ha hb h5 h6⟩
  · rw [if_neg (by rw [nI_leI (by omega) (by decide)]; exact z9)]
    have es : nI s - 10 = nI (s - 10) := by rw [show (10 : Int32) = nI 10 from rfl, nI_sub (by omega)]
    rw [es, if_neg (nI_in (show s - 10 < 4 by omega) (by decide)), nI_clamp (by omega)]
    obtain ⟨σ4, e4, a4, r4, l4⟩ := put_s r3 (w := 72 + (s - 10)) (by omega) (by omega) (by omega)
    rw [e4, b2r]
    obtain ⟨σ5, e5, a5, r5, l5⟩ := p487 (N := N) (xs := xs) (k111 := k111) (x2 := x2) (x7 := x7) (x8 := nI k) r4 (by omega)
    have hs4 : s = 10 ∨ s = 11 ∨ s = 12 ∨ s = 13 := by omega
    rcases hs4 with rfl | rfl | rfl | rfl
    · exact ⟨σ5, hdT k ++ tAt0, e5, a5.trans (a4.trans a30), by rw [show B ++ (hdT k ++ tAt0) = B ++ SB 86 ++ [dgt k] ++ SB 87 ++ SB (72 + (10 - 10)) ++ SB 92 by simp only [List.append_assoc]; rfl]; exact r5, by rw [show B ++ (hdT k ++ tAt0) = B ++ SB 86 ++ [dgt k] ++ SB 87 ++ SB (72 + (10 - 10)) ++ SB 92 by simp only [List.append_assoc]; rfl]; omega, i_at0 (by omega)⟩
    · exact ⟨σ5, hdT k ++ tAt1, e5, a5.trans (a4.trans a30), by rw [show B ++ (hdT k ++ tAt1) = B ++ SB 86 ++ [dgt k] ++ SB 87 ++ SB (72 + (11 - 10)) ++ SB 92 by simp only [List.append_assoc]; rfl]; exact r5, by rw [show B ++ (hdT k ++ tAt1) = B ++ SB 86 ++ [dgt k] ++ SB 87 ++ SB (72 + (11 - 10)) ++ SB 92 by simp only [List.append_assoc]; rfl]; omega, i_at1 (by omega)⟩
    · exact ⟨σ5, hdT k ++ tAt2, e5, a5.trans (a4.trans a30), by rw [show B ++ (hdT k ++ tAt2) = B ++ SB 86 ++ [dgt k] ++ SB 87 ++ SB (72 + (12 - 10)) ++ SB 92 by simp only [List.append_assoc]; rfl]; exact r5, by rw [show B ++ (hdT k ++ tAt2) = B ++ SB 86 ++ [dgt k] ++ SB 87 ++ SB (72 + (12 - 10)) ++ SB 92 by simp only [List.append_assoc]; rfl]; omega, i_at2 (by omega)⟩
    · exact ⟨σ5, hdT k ++ tAt3, e5, a5.trans (a4.trans a30), by rw [show B ++ (hdT k ++ tAt3) = B ++ SB 86 ++ [dgt k] ++ SB 87 ++ SB (72 + (13 - 10)) ++ SB 92 by simp only [List.append_assoc]; rfl]; exact r5, by rw [show B ++ (hdT k ++ tAt3) = B ++ SB 86 ++ [dgt k] ++ SB 87 ++ SB (72 + (13 - 10)) ++ SB 92 by simp only [List.append_assoc]; rfl]; omega, i_at3 (by omega)⟩
theorem p282 (h : Rw (σ.2 0) B) (hB : B.length ≤ 1000) (hk : k < 6) (hs : s < 14) (hs2 : s < 10 → a < k ∧ b < k) (hlo : lo < 10) (hh : bd = true → (s = 4 ∨ s = 5 ∨ s = 6) ∧ lo ≤ hi ∧ hi < 10 ∧ x14 = nI hi) : ∃ σ' A, FL_parts_282 LF N xs k111 x2 x7 (nI k) (nI s) (nI a) (nI b) (nI lo) x14 (bI bd) σ = k111 x2 x7 (nI (k + 1)) σ' ∧ σ'.1 = σ.1 ∧ Rw (σ'.2 0) (B ++ A) ∧ (B ++ A).length ≤ B.length + 110 ∧ ItOK k A := by
  have P := fun xc => p335 (N := N) (xs := xs) (k111 := k111) (x2 := x2) (x7 := x7) (k := k) (s := s) (a := a) (b := b) (lo := lo) (hi := hi) (bd := bd) (x14 := x14) h hB (q := LF) (by decide) (xc := xc) hk hs hs2 hlo hh
  have z3 : ¬ ((3 : Int32) < 0 ∨ 5 ≤ (3 : Int32).toNatClampNeg) := by decide
  rw [FL_parts_282]
  by_cases z : bI bd = 0
  · rw [if_pos z, FL_parts_315, if_neg z3, if_pos z]
    exact P _
  · rw [if_neg z, FL_parts_315, if_neg z3, if_neg z]
    exact P _
theorem p257 (h : Rw (σ.2 0) B) (hB : B.length ≤ 1000) (hk : k < 6) (hs : s < 14) (hs2 : s < 10 → a < k ∧ b < k) (hlo : lo < 4) (hh : x14 < 0 ∨ ∃ j, j < 5 ∧ x14 = nI (lo + j)) : ∃ σ' A, FL_parts_257 LF N xs k111 x2 x7 (nI k) (nI s) (nI a) (nI b) (nI lo) x14 σ = k111 x2 x7 (nI (k + 1)) σ' ∧ σ'.1 = σ.1 ∧ Rw (σ'.2 0) (B ++ A) ∧ (B ++ A).length ≤ B.length + 110 ∧ ItOK k A := by
  have no := p282 (N := N) (xs := xs) (k111 := k111) (x2 := x2) (x7 := x7) (k := k) (s := s) (a := a) (b := b) (lo := lo) (hi := 0) (bd := false) (x14 := x14) h hB hk hs hs2 (by omega) (fun y => by cases y)
  rw [FL_parts_257, FL_parts_281, show (3 : Int32) = nI 3 from rfl, show (7 : Int32) = nI 7 from rfl]
  by_cases z1 : s ≤ 3
  · rw [if_pos (nI_le z1 (by decide))]; exact no
  rw [if_neg (by rw [nI_leI (by omega) (by decide)]; exact z1)]
  by_cases z2 : 7 ≤ s
  · rw [if_pos (nI_le z2 (by omega))]; exact no
  rw [if_neg (by rw [nI_leI (by decide) (by omega)]; exact z2)]
  by_cases z3 : x14 < 0
  · rw [if_pos z3]; exact no
  rw [if_neg z3]
  obtain ⟨j, hj, e⟩ := hh.resolve_left z3
  exact p282 (N := N) (xs := xs) (k111 := k111) (x2 := x2) (x7 := x7) (k := k) (s := s) (a := a) (b := b) (lo := lo) (hi := lo + j) (bd := true) (x14 := x14) h hB hk hs hs2 (by omega) (fun _ => ⟨by omega, by omega, by omega, e⟩)
theorem p173 {x9 : Int32} (h : Rw (σ.2 0) B) (hB : B.length ≤ 1000) (hk : k < 6) (hs : s < 14) (hk2 : k < 2 → 10 ≤ s) : ∃ σ' A, FL_parts_173 LF N xs k111 x2 x7 (nI k) x9 (nI s) σ = k111 x2 x7 (nI (k + 1)) σ' ∧ σ'.1 = σ.1 ∧ Rw (σ'.2 0) (B ++ A) ∧ (B ++ A).length ≤ B.length + 110 ∧ ItOK k A := by
  have tail : ∀ a b, (s < 10 → a < k ∧ b < k) → ∃ σ' A, FL_parts_216 LF N xs k111 x2 x7 (nI k) x9 (nI s) (nI a) (nI b) σ = k111 x2 x7 (nI (k + 1)) σ' ∧ σ'.1 = σ.1 ∧ Rw (σ'.2 0) (B ++ A) ∧ (B ++ A).length ≤ B.length + 110 ∧ ItOK k A := by
    intro a b hab
    obtain ⟨lo, h1, e1⟩ := below_ok (x9 >>> ((10 : Int32) &&& 31)) (n := 4) (by decide) (by decide)
    obtain ⟨r, h2, e2⟩ := below_ok (x9 >>> ((13 : Int32) &&& 31)) (n := 3) (by decide) (by decide)
    obtain ⟨j, h3, e3⟩ := below_ok (x9 >>> ((15 : Int32) &&& 31)) (n := 5) (by decide) (by decide)
    rw [FL_parts_216, show (4 : Int32) = nI 4 from rfl, e1, obS, show (3 : Int32) = nI 3 from rfl, e2, obS]
    by_cases z : nI r = 0
    · rw [if_pos z]
      exact p257 h hB hk hs hab h1 (Or.inl (by decide))
    · rw [if_neg z, show (5 : Int32) = nI 5 from rfl, e3, obS, nI_add]
      exact p257 h hB hk hs hab h1 (Or.inr ⟨j, h3, rfl⟩)
  rw [FL_parts_173, show (2 : Int32) = nI 2 from rfl]
  by_cases z : 2 ≤ k
  · obtain ⟨a, h1, e1⟩ := below_ok (x9 >>> ((4 : Int32) &&& 31)) (n := k) (by omega) (by omega)
    obtain ⟨b, h2, e2⟩ := below_ok (x9 >>> ((7 : Int32) &&& 31)) (n := k) (by omega) (by omega)
    rw [if_pos (nI_le z (by omega)), e1, obS, FL_parts_194, show (2 : Int32) = nI 2 from rfl, if_pos (nI_le z (by omega)), e2, obS]
    exact tail a b (fun _ => ⟨h1, h2⟩)
  · have hn : ¬ nI 2 ≤ nI k := by rw [nI_leI (by decide) (by omega)]; exact z
    rw [if_neg hn, FL_parts_194, show (2 : Int32) = nI 2 from rfl, if_neg hn]
    exact tail 0 0 (fun y => absurd (hk2 (by omega)) (by omega))
theorem ix6 : ∀ k, k < 6 → (0 : Int32) + 1 + (nI k - nI k / 6 * 6) = nI (k + 1) := by decide +kernel
theorem p111 (hN : N ≤ 260) (hm : m ≤ 6) : ∀ (d k q : Nat) (σ : LwS) (its : List (List Int32)), k + d = m → d < q → Rw (σ.2 0) (tSig ++ its.flatten) → (tSig ++ its.flatten).length ≤ 28 + 110 * k → its.length = k → (∀ i, i < k → ItOK i (its.getD i [])) → ∃ (σ' : LwS) (its' : List (List Int32)), FL_parts_111 LF N xs q 0 (nI m) (nI k) σ = some (nI m, σ') ∧ σ'.1 = σ.1 ∧ Rw (σ'.2 0) (tSig ++ its'.flatten) ∧ (tSig ++ its'.flatten).length ≤ 28 + 110 * m ∧ its'.length = m ∧ ∀ i, i < m → ItOK i (its'.getD i [])
  | 0, k, q, σ, its, hk, hq, h, hB, hl, hI => by
    obtain ⟨q, rfl⟩ : ∃ z, q = z + 1 := ⟨q - 1, by omega⟩
    have hk : k = m := by omega
    subst hk
    exact ⟨σ, its, by rw [FL_parts_111, if_pos (nI_le (Nat.le_refl _) (by omega))], rfl, h, hB, hl, hI⟩
  | d+1, k, q, σ, its, hk, hq, h, hB, hl, hI => by
    obtain ⟨q, rfl⟩ : ∃ z, q = z + 1 := ⟨q - 1, by omega⟩
    obtain ⟨v, ev⟩ := cell_ok (N := N) (xs := xs) hN (k := k + 1) (by omega)
    rw [FL_parts_111, if_neg (by rw [nI_leI (by omega) (by omega)]; omega), ix6 k (by omega), ev, obS]
    have go : ∀ (x9 : Int32) s, s < 14 → (k < 2 → 10 ≤ s) → ∃ (σ' : LwS) (its' : List (List Int32)), FL_parts_173 LF N xs (FL_parts_111 LF N xs q) 0 (nI m) (nI k) x9 (nI s) σ = some (nI m, σ') ∧ σ'.1 = σ.1 ∧ Rw (σ'.2 0) (tSig ++ its'.flatten) ∧ (tSig ++ its'.flatten).length ≤ 28 + 110 * m ∧ its'.length = m ∧ ∀ i, i < m → ItOK i (its'.getD i []) := by
      intro x9 s hs hs2
      obtain ⟨σ1, A, e1, a1, r1, l1, i1⟩ := p173 (N := N) (xs := xs) (k111 := FL_parts_111 LF N xs q) (x2 := 0) (x7 := nI m) (x9 := x9) h (by omega) (show k < 6 by omega) hs hs2
      have ef : tSig ++ its.flatten ++ A = tSig ++ (its ++ [A]).flatten := by
        rw [List.flatten_append, List.append_assoc]
        simp
      rw [ef] at r1 l1
      obtain ⟨σ2, its2, e2, a2, r2, l2, n2, i2⟩ := p111 hN hm d (k + 1) q σ1 (its ++ [A]) (by omega) (by omega) r1 (by omega) (by simp [hl]) (fun i hi => by
        by_cases z : i < k
        · have := hI i z
          rw [List.getD_eq_getElem?_getD, List.getElem?_append_left (by omega), ← List.getD_eq_getElem?_getD]
          exact this
        · have : i = k := by omega
          subst this
          rw [List.getD_eq_getElem?_getD, List.getElem?_append_right (by omega), hl, Nat.sub_self]
          exact i1)
      exact ⟨σ2, its2, by rw [e1]; exact e2, a2.trans a1, r2, l2, n2, i2⟩
    rw [show (2 : Int32) = nI 2 from rfl]
    by_cases z : 2 ≤ k
    · rw [if_pos (nI_le z (by omega))]
      obtain ⟨s, h1, e1⟩ := below_ok ((v >>> (((nI k / 6) * 5) &&& 31)) ^^^ (nI k * 911)) (n := 14) (by decide) (by decide)
      rw [show (14 : Int32) = nI 14 from rfl, e1, obS]
      exact go _ s h1 (fun y => absurd z (by omega))
    · rw [if_neg (by rw [nI_leI (by decide) (by omega)]; exact z)]
      obtain ⟨s, h1, e1⟩ := below_ok ((v >>> (((nI k / 6) * 5) &&& 31)) ^^^ (nI k * 911)) (n := 4) (by decide) (by decide)
      rw [show (4 : Int32) = nI 4 from rfl, e1, obS, show (10 : Int32) = nI 10 from rfl, nI_add]
      exact go _ (10 + s) (by omega) (fun _ => by omega)
theorem parts_ok (hN : N ≤ 260) (h : Rw (σ.2 0) []) : ∃ (m : Nat) (σ' : LwS) (its : List (List Int32)), (m = 4 ∨ m = 5 ∨ m = 6) ∧ FL_parts LF N xs 0 6 σ = some (nI m, σ') ∧ σ'.1 = σ.1 ∧ Rw (σ'.2 0) (tSig ++ its.flatten) ∧ (tSig ++ its.flatten).length ≤ 688 ∧ its.length = m ∧ ∀ i, i < m → ItOK i (its.getD i []) := by
  obtain ⟨σ1, e1, a1, r1⟩ := put_ok h (w := 71) (by decide) (by decide) (by decide)
  obtain ⟨v, ev⟩ := cell_ok (N := N) (xs := xs) hN (k := 0) (by decide)
  have ev : FL_cell N xs 0 = some v := ev
  obtain ⟨j, h1, e2⟩ := below_ok v (n := 3) (by decide) (by decide)
  have r1 : Rw (σ1.2 0) (tSig ++ ([] : List (List Int32)).flatten) := r1
  obtain ⟨σ2, its, e3, a3, r3, l3, n3, i3⟩ := p111 (N := N) (xs := xs) hN (m := 4 + j) (by omega) (4 + j) 0 8 σ1 [] (by omega) (by omega) r1 (by decide) rfl (fun i hi => absurd hi (Nat.not_lt_zero _))
  have e3 : FL_parts_111 LF N xs 8 0 (nI (4 + j)) 0 σ1 = _ := e3
  refine ⟨4 + j, σ2, its, by omega, ?_, a3.trans a1, r3, by omega, n3, i3⟩
  rw [FL_parts, e1, b2r, ev, obS, show (6 : Int32) - 3 = nI 3 by decide, e2, obS, show (4 : Int32) = nI 4 from rfl, nI_add]
  exact e3
end PP
