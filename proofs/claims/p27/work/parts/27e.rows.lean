-- what the law writes into its row
def SB (w : Nat) : List Int32 := SBYT.getD w []
/-- bytes of a text -/
def OkL (B : List Int32) : Prop := ∀ x ∈ B, x.toNatClampNeg < 128 ∧ x = nI x.toNatClampNeg
theorem OkL.app {A B : List Int32} (h : OkL A) (h' : OkL B) : OkL (A ++ B) := List.forall_mem_append.mpr ⟨h, h'⟩
theorem okSB : ∀ w, w < 97 → 71 ≤ w → ∀ x ∈ SB w, x.toNatClampNeg < 128 ∧ x = nI x.toNatClampNeg := by decide +kernel
theorem okDg : ∀ a, a < 10 → ∀ x ∈ [dgt a], x.toNatClampNeg < 128 ∧ x = nI x.toNatClampNeg := by decide +kernel
/-- a row that holds a text -/
def Rw (f : Nat → Int32) (B : List Int32) : Prop := f 0 = nI B.length ∧ B.length ≤ 1699 ∧ (∀ i, i < B.length → f (1 + i) = B.getD i 0) ∧ OkL B
theorem putFacts : ∀ w, w < 97 → 71 ≤ w → FJ0_length_8abf5 w = some (nI (SB w).length) ∧ (SB w).length < 300 ∧ ∀ i, i < (SB w).length → FJ0_charAt_5068e w (nI i) = some ((SB w).getD i 0) := by decide +kernel
theorem z0R : ¬ ((0 : Int32) < 0 ∨ 1700 ≤ (0 : Int32).toNatClampNeg) := by decide
theorem c0R : (0 : Int32).toNatClampNeg = 0 := rfl
theorem n1 : (1 : Int32) = nI 1 := rfl
section RO
variable {σ : LwS} {B C : List Int32} {w n m k N : Nat} {f g : Nat → Int32} {xs : Nat → Int32}
theorem rR_rR : rR (rR σ k f) k g = rR σ k g := by
  show (σ.1, va_up (va_up σ.2 k f) k g) = (σ.1, va_up σ.2 k g)
  rw [va_upup]
theorem rR_g : (rR σ 0 f).2 0 = f := by
  show va_up σ.2 0 f 0 = f
  rw [up_s]
theorem rR_id : rR σ 0 (σ.2 0) = σ := by
  show (σ.1, va_up σ.2 0 (σ.2 0)) = σ
  have : va_up σ.2 0 (σ.2 0) = σ.2 := by
    funext j
    unfold va_up
    by_cases h : j = 0
    · rw [if_pos h, h]
    · rw [if_neg h]
  rw [this]
theorem put2 (hw : w < 97) (hw2 : 71 ≤ w) (hO : OkL B) (hB : B.length + (SB w).length ≤ 1699) : ∀ (d x n : Nat) (f : Nat → Int32), x + d = (SB w).length → d < n → f 0 = nI B.length → (∀ i, i < B.length → f (1 + i) = B.getD i 0) → (∀ i, i < x → f (1 + (B.length + i)) = (SB w).getD i 0) → ∃ f', FL_put_2 LF w n (nI x) (rR σ 0 f) = some ((), rR σ 0 f') ∧ Rw f' (B ++ SB w)
  | 0, x, n, f, hx, hn, h0, h1, h2 => by
    obtain ⟨n, rfl⟩ : ∃ z, n = z + 1 := ⟨n - 1, by omega⟩
    obtain ⟨e1, e2, e3⟩ := putFacts w hw hw2
    rw [FL_put_2, e1, obS, if_pos (nI_le (by omega) (by omega)), if_neg z0R, obS, if_neg z0R, c0R, rR_g, h0, rR_rR, nI_add]
    refine ⟨_, rfl, ?_, by rw [List.length_append]; omega, fun i hi => ?_, hO.app (okSB w hw hw2)⟩
    · rw [upd_s, List.length_append]
    · rw [List.length_append] at hi
      rw [upd_n (by omega)]
      by_cases z : i < B.length
      · rw [h1 i z]; simp [List.getElem?_append_left z]
      · obtain ⟨q, rfl⟩ : ∃ q, i = B.length + q := ⟨i - B.length, by omega⟩
        rw [h2 q (by omega)]; simp [List.getElem?_append_right]
  | d+1, x, n, f, hx, hn, h0, h1, h2 => by
    obtain ⟨n, rfl⟩ : ∃ z, n = z + 1 := ⟨n - 1, by omega⟩
    obtain ⟨e1, e2, e3⟩ := putFacts w hw hw2
    have ei : (1 : Int32) + nI B.length + nI x = nI (1 + B.length + x) := by rw [n1, nI_add, nI_add]
    rw [FL_put_2, e1, obS, if_neg (by rw [nI_leI (by omega) (by omega)]; omega), if_neg z0R, e3 x (by omega), obS, c0R, rR_g, h0, ei, if_neg (nI_in (show 1 + B.length + x < 1700 by omega) (by decide)), nI_clamp (by omega), rR_rR, ← nI_succ]
    refine put2 hw hw2 hO hB d (x + 1) n _ (by omega) (by omega) (by rw [upd_n (by omega)]; exact h0) (fun i hi => by rw [upd_n (by omega)]; exact h1 i hi) (fun i hi => ?_)
    by_cases z : i = x
    · rw [z, show 1 + (B.length + x) = 1 + B.length + x by omega, upd_s]
    · rw [upd_n (by omega)]; exact h2 i (by omega)
theorem put_ok (h : Rw (σ.2 0) B) (hw : w < 97) (hw2 : 71 ≤ w) (hB : B.length + (SB w).length ≤ 1699) : ∃ σ', FL_put LF w σ = some ((), σ') ∧ σ'.1 = σ.1 ∧ Rw (σ'.2 0) (B ++ SB w) := by
  obtain ⟨e1, e2, e3⟩ := putFacts w hw hw2
  obtain ⟨f', a, b⟩ := put2 (σ := σ) hw hw2 h.2.2.2 hB (SB w).length 0 5000 (σ.2 0) (by omega) (by omega) h.1 h.2.2.1 (fun i hi => absurd hi (Nat.not_lt_zero _))
  rw [rR_id] at a
  exact ⟨rR σ 0 f', a, rfl, by rw [rR_g]; exact b⟩
theorem dg9 : ∀ a, a < 10 → nI a ≤ 9 ∧ (48 : Int32) + (nI a - nI a / 10 * 10) = dgt a := by decide +kernel
theorem putd_ok {a : Nat} (h : Rw (σ.2 0) B) (ha : a < 10) (hB : B.length + 1 ≤ 1699) : ∃ σ', FL_put_ (nI a) σ = some ((), σ') ∧ σ'.1 = σ.1 ∧ Rw (σ'.2 0) (B ++ [dgt a]) := by
  obtain ⟨d1, d2⟩ := dg9 a ha
  obtain ⟨h0, h1, h2, h3⟩ := h
  rw [FL_put_, if_pos d1, FL_put__14, if_neg z0R, if_neg z0R, if_neg z0R, c0R, h0, n1, nI_add, if_neg (nI_in (show 1 + B.length < 1700 by omega) (by decide)), nI_clamp (by omega), d2, rR_rR, upd_n (show 0 ≠ 1 + B.length by omega), h0, nI_add]
  refine ⟨_, rfl, rfl, ?_⟩
  rw [rR_g]
  refine ⟨?_, by rw [List.length_append]; simpa using hB, fun i hi => ?_, h3.app (okDg a ha)⟩
  · rw [upd_s, List.length_append]; rfl
  · rw [List.length_append] at hi
    have hi : i < B.length + 1 := hi
    rw [upd_n (by omega)]
    by_cases z : i < B.length
    · rw [upd_n (by omega), h2 i z]; simp [List.getElem?_append_left z]
    · have : i = B.length := by omega
      subst this
      rw [upd_s]; simp
theorem cell_ok (hN : N ≤ 260) (hk : k < 1000) : ∃ v, FL_cell N xs (nI k) = some v := by
  rw [FL_cell]
  by_cases z : Int32.ofNat N ≤ nI k
  · rw [if_pos z]; exact ⟨_, rfl⟩
  · have z2 : k < N := by
      by_cases y : k < N
      · exact y
      · exact absurd (nI_le (show N ≤ k by omega) (by omega)) z
    rw [if_neg z, if_neg (nI_in z2 (by omega))]
    exact ⟨_, rfl⟩
theorem msk (y : Int32) : ∃ b, b < 2 ^ 31 ∧ y &&& 2147483647 = nI b := by
  refine ⟨(y &&& 2147483647).toBitVec.toNat, ?_, ?_⟩
  · rw [Int32.toBitVec_and, BitVec.toNat_and]
    have e : (2147483647 : Int32).toBitVec.toNat = 2147483647 := by decide
    have := Nat.and_le_right (n := y.toBitVec.toNat) (m := (2147483647 : Int32).toBitVec.toNat)
    omega
  · apply Int32.toBitVec_inj.mp
    show _ = BitVec.ofNat 32 _
    rw [BitVec.ofNat_toNat, BitVec.setWidth_eq]
theorem nI_div {a b : Nat} (ha : a < 2 ^ 31) (hb : b < 2 ^ 31) (h0 : 0 < b) : nI a / nI b = nI (a / b) := by
  apply Int32.toInt.inj
  have hd : a / b ≤ a := Nat.div_le_self a b
  rw [Int32.toInt_div, nI_toInt ha, nI_toInt hb, nI_toInt (by omega)]
  rw [Int.tdiv_eq_ediv_of_nonneg (by omega), show ((a : Int) / (b : Int)) = ((a / b : Nat) : Int) from (Int.natCast_ediv a b).symm]
  have g : ((a / b : Nat) : Int) ≤ (a : Int) := Int.ofNat_le.mpr hd
  have g0 : (0 : Int) ≤ ((a / b : Nat) : Int) := Int.natCast_nonneg _
  generalize ((a / b : Nat) : Int) = e at g g0 ⊢
  exact Int.bmod_eq_of_le (by omega) (by omega)
theorem nI_mul {a b : Nat} : nI a * nI b = nI (a * b) := (Int32.ofNat_mul a b).symm
theorem nI_rem {a b : Nat} (ha : a < 2 ^ 31) (hb : b < 2 ^ 31) (h0 : 0 < b) : nI a - nI a / nI b * nI b = nI (a % b) := by
  have h1 : a / b * b ≤ a := Nat.div_mul_le_self a b
  rw [nI_div ha hb h0, nI_mul, nI_sub h1]
  congr 1
  have := Nat.div_add_mod a b
  rw [Nat.mul_comm] at this
  omega
theorem below_ok (v : Int32) (h0 : 0 < n) (hn : n < 2 ^ 31) : ∃ j, j < n ∧ FL_below v (nI n) = some (nI j) := by
  obtain ⟨a, ha, e⟩ := msk v
  exact ⟨a % n, Nat.mod_lt _ h0, by rw [FL_below, if_neg (nI_ne0 h0 hn), e, nI_rem ha hn h0]⟩
end RO
