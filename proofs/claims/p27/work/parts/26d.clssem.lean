-- the class reckons just these worths
def kK (s : Int32) : Int32 :=
  if s = 5 then 0 else if s = 6 then 1 else if s = 7 then 2 else if s = 8 then 3 else if s = 9 then 4 else if s = 10 then 5 else if s = 16 then 6 else if s = 17 then 7 else if s = 44 then 9 else if s = 45 then 9 else if s = 46 then 9 else if s = 47 then 9 else if s = 48 then 9 else if s = 49 then 9 else if s = 11 then 10 else if s = 12 then 11 else if s = 13 then 12 else if s = 14 then 13 else if s = 52 then 20 else if s = 0 then 21 else if s = 28 then 23 else if s = 29 then 24 else if s = 55 then 25 else if s = 21 then 26 else if s = 22 then 27 else if s = 23 then 28 else if s = 24 then 29 else if s = 25 then 30 else if s = 27 then 31 else if s = 26 then 32 else if s = 18 then 33 else if s = 39 then 34 else if s = 40 then 34 else if s = 41 then 34 else if s = 42 then 34 else if s = 43 then 34 else 99
def kT (s x : Int32) : Int32 :=
  if s = 44 then 0 else if s = 45 then 1 else if s = 46 then 2 else if s = 47 then 3 else if s = 48 then 4 else if s = 49 then 5 else if s = 39 then 0 else if s = 40 then 1 else if s = 41 then 2 else if s = 42 then 3 else if s = 43 then 4 else x
def hiC (h : Int32) : Int32 := if h = 1000000 then -1 else h
def ntC (τ : CS) : NT := fun n => (kK (τ.2.2.1 15 n), τ.2.2.1 19 n, τ.2.2.1 21 n, kT (τ.2.2.1 15 n) (τ.2.2.1 23 n), τ.2.2.1 25 n, hiC (τ.2.2.1 27 n))
def hsC (τ : CS) : Hs := (τ.2.2.1 46, fun k i => τ.2.2.2.2 0 k i)
def cellC (τ : CS) (m j : Nat) : Int64 := τ.2.2.2.2 2 m j
theorem kK_cases {s : Int32} (h : isK (kK s) = true) : s = 5 ∨ s = 6 ∨ s = 7 ∨ s = 8 ∨ s = 9 ∨ s = 10 ∨ s = 16 ∨ s = 17 ∨ s = 44 ∨ s = 45 ∨ s = 46 ∨ s = 47 ∨ s = 48 ∨ s = 49 ∨ s = 11 ∨ s = 12 ∨ s = 13 ∨ s = 14 ∨ s = 52 ∨ s = 0 ∨ s = 28 ∨ s = 29 ∨ s = 55 ∨ s = 21 ∨ s = 22 ∨ s = 23 ∨ s = 24 ∨ s = 25 ∨ s = 27 ∨ s = 26 ∨ s = 18 ∨ s = 39 ∨ s = 40 ∨ s = 41 ∨ s = 42 ∨ s = 43 := by
  by_cases c5 : s = 5
  · exact Or.inl c5
  by_cases c6 : s = 6
  · exact Or.inr (Or.inl c6)
  by_cases c7 : s = 7
  · exact Or.inr (Or.inr (Or.inl c7))
  by_cases c8 : s = 8
  · exact Or.inr (Or.inr (Or.inr (Or.inl c8)))
  by_cases c9 : s = 9
  · exact Or.inr (Or.inr (Or.inr (Or.inr (Or.inl c9))))
  by_cases c10 : s = 10
  · exact Or.inr (Or.inr (Or.inr (Or.inr (Or.inr (Or.inl c10)))))
  by_cases c16 : s = 16
  · exact Or.inr (Or.inr (Or.inr (Or.inr (Or.inr (Or.inr (Or.inl c16))))))
  by_cases c17 : s = 17
  · exact Or.inr (Or.inr (Or.inr (Or.inr (Or.inr (Or.inr (Or.inr (Or.inl c17)))))))
  by_cases c44 : s = 44
  · exact Or.inr (Or.inr (Or.inr (Or.inr (Or.inr (Or.inr (Or.inr (Or.inr (Or.inl c44))))))))
  by_cases c45 : s = 45
  · exact Or.inr (Or.inr (Or.inr (Or.inr (Or.inr (Or.inr (Or.inr (Or.inr (Or.inr (Or.inl c45)))))))))
  by_cases c46 : s = 46
  · exact Or.inr (Or.inr (Or.inr (Or.inr (Or.inr (Or.inr (Or.inr (Or.inr (Or.inr (Or.inr (Or.inl c46))))))))))
  by_cases c47 : s = 47
  · exact Or.inr (Or.inr (Or.inr (Or.inr (Or.inr (Or.inr (Or.inr (Or.inr (Or.inr (Or.inr (Or.inr (Or.inl c47)))))))))))
  by_cases c48 : s = 48
  · exact Or.inr (Or.inr (Or.inr (Or.inr (Or.inr (Or.inr (Or.inr (Or.inr (Or.inr (Or.inr (Or.inr (Or.inr (Or.inl c48))))))))))))
  by_cases c49 : s = 49
  · exact Or.inr (Or.inr (Or.inr (Or.inr (Or.inr (Or.inr (Or.inr (Or.inr (Or.inr (Or.inr (Or.inr (Or.inr (Or.inr (Or.inl c49)))))))))))))
  by_cases c11 : s = 11
  · exact Or.inr (Or.inr (Or.inr (Or.inr (Or.inr (Or.inr (Or.inr (Or.inr (Or.inr (Or.inr (Or.inr (Or.inr (Or.inr (Or.inr (Or.inl c11))))))))))))))
  by_cases c12 : s = 12
  · exact Or.inr (Or.inr (Or.inr (Or.inr (Or.inr (Or.inr (Or.inr (Or.inr (Or.inr (Or.inr (Or.inr (Or.inr (Or.inr (Or.inr (Or.inr (Or.inl c12)))))))))))))))
  by_cases c13 : s = 13
  · exact Or.inr (Or.inr (Or.inr (Or.inr (Or.inr (Or.inr (Or.inr (Or.inr (Or.inr (Or.inr (Or.inr (Or.inr (Or.inr (Or.inr (Or.inr (Or.inr (Or.inl c13))))))))))))))))
  by_cases c14 : s = 14
  · exact Or.inr (Or.inr (Or.inr (Or.inr (Or.inr (Or.inr (Or.inr (Or.inr (Or.inr (Or.inr (Or.inr (Or.inr (Or.inr (Or.inr (Or.inr (Or.inr (Or.inr (Or.inl c14)))))))))))))))))
  by_cases c52 : s = 52
  · exact Or.inr (Or.inr (Or.inr (Or.inr (Or.inr (Or.inr (Or.inr (Or.inr (Or.inr (Or.inr (Or.inr (Or.inr (Or.inr (Or.inr (Or.inr (Or.inr (Or.inr (Or.inr (Or.inl c52))))))))))))))))))
  by_cases c0 : s = 0
  · exact Or.inr (Or.inr (Or.inr (Or.inr (Or.inr (Or.inr (Or.inr (Or.inr (Or.inr (Or.inr (Or.inr (Or.inr (Or.inr (Or.inr (Or.inr (Or.inr (Or.inr (Or.inr (Or.inr (Or.inl c0)))))))))))))))))))
  by_cases c28 : s = 28
  · exact Or.inr (Or.inr (Or.inr (Or.inr (Or.inr (Or.inr (Or.inr (Or.inr (Or.inr (Or.inr (Or.inr (Or.inr (Or.inr (Or.inr (Or.inr (Or.inr (Or.inr (Or.inr (Or.inr (Or.inr (Or.inl c28))))))))))))))))))))
  by_cases c29 : s = 29
  · exact Or.inr (Or.inr (Or.inr (Or.inr (Or.inr (Or.inr (Or.inr (Or.inr (Or.inr (Or.inr (Or.inr (Or.inr (Or.inr (Or.inr (Or.inr (Or.inr (Or.inr (Or.inr (Or.inr (Or.inr (Or.inr (Or.inl c29)))))))))))))))))))))
  by_cases c55 : s = 55
  · exact Or.inr (Or.inr (Or.inr (Or.inr (Or.inr (Or.inr (Or.inr (Or.inr (Or.inr (Or.inr (Or.inr (Or.inr (Or.inr (Or.inr (Or.inr (Or.inr (Or.inr (Or.inr (Or.inr (Or.inr (Or.inr (Or.inr (Or.inl c55))))))))))))))))))))))
  by_cases c21 : s = 21
  · exact Or.inr (Or.inr (Or.inr (Or.inr (Or.inr (Or.inr (Or.inr (Or.inr (Or.inr (Or.inr (Or.inr (Or.inr (Or.inr (Or.inr (Or.inr (Or.inr (Or.inr (Or.inr (Or.inr (Or.inr (Or.inr (Or.inr (Or.inr (Or.inl c21)))))))))))))))))))))))
  by_cases c22 : s = 22
  · exact Or.inr (Or.inr (Or.inr (Or.inr (Or.inr (Or.inr (Or.inr (Or.inr (Or.inr (Or.inr (Or.inr (Or.inr (Or.inr (Or.inr (Or.inr (Or.inr (Or.inr (Or.inr (Or.inr (Or.inr (Or.inr (Or.inr (Or.inr (Or.inr (Or.inl c22))))))))))))))))))))))))
  by_cases c23 : s = 23
  · exact Or.inr (Or.inr (Or.inr (Or.inr (Or.inr (Or.inr (Or.inr (Or.inr (Or.inr (Or.inr (Or.inr (Or.inr (Or.inr (Or.inr (Or.inr (Or.inr (Or.inr (Or.inr (Or.inr (Or.inr (Or.inr (Or.inr (Or.inr (Or.inr (Or.inr (Or.inl c23)))))))))))))))))))))))))
  by_cases c24 : s = 24
  · exact Or.inr (Or.inr (Or.inr (Or.inr (Or.inr (Or.inr (Or.inr (Or.inr (Or.inr (Or.inr (Or.inr (Or.inr (Or.inr (Or.inr (Or.inr (Or.inr (Or.inr (Or.inr (Or.inr (Or.inr (Or.inr (Or.inr (Or.inr (Or.inr (Or.inr (Or.inr (Or.inl c24))))))))))))))))))))))))))
  by_cases c25 : s = 25
  · exact Or.inr (Or.inr (Or.inr (Or.inr (Or.inr (Or.inr (Or.inr (Or.inr (Or.inr (Or.inr (Or.inr (Or.inr (Or.inr (Or.inr (Or.inr (Or.inr (Or.inr (Or.inr (Or.inr (Or.inr (Or.inr (Or.inr (Or.inr (Or.inr (Or.inr (Or.inr (Or.inr (Or.inl c25)))))))))))))))))))))))))))
  by_cases c27 : s = 27
  · exact Or.inr (Or.inr (Or.inr (Or.inr (Or.inr (Or.inr (Or.inr (Or.inr (Or.inr (Or.inr (Or.inr (Or.inr (Or.inr (Or.inr (Or.inr (Or.inr (Or.inr (Or.inr (Or.inr (Or.inr (Or.inr (Or.inr (Or.inr (Or.inr (Or.inr (Or.inr (Or.inr (Or.inr (Or.inl c27))))))))))))))))))))))))))))
  by_cases c26 : s = 26
  · exact Or.inr (Or.inr (Or.inr (Or.inr (Or.inr (Or.inr (Or.inr (Or.inr (Or.inr (Or.inr (Or.inr (Or.inr (Or.inr (Or.inr (Or.inr (Or.inr (Or.inr (Or.inr (Or.inr (Or.inr (Or.inr (Or.inr (Or.inr (Or.inr (Or.inr (Or.inr (Or.inr (Or.inr (Or.inr (Or.inl c26)))))))))))))))))))))))))))))
  by_cases c18 : s = 18
  · exact Or.inr (Or.inr (Or.inr (Or.inr (Or.inr (Or.inr (Or.inr (Or.inr (Or.inr (Or.inr (Or.inr (Or.inr (Or.inr (Or.inr (Or.inr (Or.inr (Or.inr (Or.inr (Or.inr (Or.inr (Or.inr (Or.inr (Or.inr (Or.inr (Or.inr (Or.inr (Or.inr (Or.inr (Or.inr (Or.inr (Or.inl c18))))))))))))))))))))))))))))))
  by_cases c39 : s = 39
  · exact Or.inr (Or.inr (Or.inr (Or.inr (Or.inr (Or.inr (Or.inr (Or.inr (Or.inr (Or.inr (Or.inr (Or.inr (Or.inr (Or.inr (Or.inr (Or.inr (Or.inr (Or.inr (Or.inr (Or.inr (Or.inr (Or.inr (Or.inr (Or.inr (Or.inr (Or.inr (Or.inr (Or.inr (Or.inr (Or.inr (Or.inr (Or.inl c39)))))))))))))))))))))))))))))))
  by_cases c40 : s = 40
  · exact Or.inr (Or.inr (Or.inr (Or.inr (Or.inr (Or.inr (Or.inr (Or.inr (Or.inr (Or.inr (Or.inr (Or.inr (Or.inr (Or.inr (Or.inr (Or.inr (Or.inr (Or.inr (Or.inr (Or.inr (Or.inr (Or.inr (Or.inr (Or.inr (Or.inr (Or.inr (Or.inr (Or.inr (Or.inr (Or.inr (Or.inr (Or.inr (Or.inl c40))))))))))))))))))))))))))))))))
  by_cases c41 : s = 41
  · exact Or.inr (Or.inr (Or.inr (Or.inr (Or.inr (Or.inr (Or.inr (Or.inr (Or.inr (Or.inr (Or.inr (Or.inr (Or.inr (Or.inr (Or.inr (Or.inr (Or.inr (Or.inr (Or.inr (Or.inr (Or.inr (Or.inr (Or.inr (Or.inr (Or.inr (Or.inr (Or.inr (Or.inr (Or.inr (Or.inr (Or.inr (Or.inr (Or.inr (Or.inl c41)))))))))))))))))))))))))))))))))
  by_cases c42 : s = 42
  · exact Or.inr (Or.inr (Or.inr (Or.inr (Or.inr (Or.inr (Or.inr (Or.inr (Or.inr (Or.inr (Or.inr (Or.inr (Or.inr (Or.inr (Or.inr (Or.inr (Or.inr (Or.inr (Or.inr (Or.inr (Or.inr (Or.inr (Or.inr (Or.inr (Or.inr (Or.inr (Or.inr (Or.inr (Or.inr (Or.inr (Or.inr (Or.inr (Or.inr (Or.inr (Or.inl c42))))))))))))))))))))))))))))))))))
  by_cases c43 : s = 43
  · exact Or.inr (Or.inr (Or.inr (Or.inr (Or.inr (Or.inr (Or.inr (Or.inr (Or.inr (Or.inr (Or.inr (Or.inr (Or.inr (Or.inr (Or.inr (Or.inr (Or.inr (Or.inr (Or.inr (Or.inr (Or.inr (Or.inr (Or.inr (Or.inr (Or.inr (Or.inr (Or.inr (Or.inr (Or.inr (Or.inr (Or.inr (Or.inr (Or.inr (Or.inr (Or.inr (c43)))))))))))))))))))))))))))))))))))
  exfalso
  rw [kK, if_neg c5, if_neg c6, if_neg c7, if_neg c8, if_neg c9, if_neg c10, if_neg c16, if_neg c17, if_neg c44, if_neg c45, if_neg c46, if_neg c47, if_neg c48, if_neg c49, if_neg c11, if_neg c12, if_neg c13, if_neg c14, if_neg c52, if_neg c0, if_neg c28, if_neg c29, if_neg c55, if_neg c21, if_neg c22, if_neg c23, if_neg c24, if_neg c25, if_neg c27, if_neg c26, if_neg c18, if_neg c39, if_neg c40, if_neg c41, if_neg c42, if_neg c43] at h
  exact absurd h (by decide)
theorem gI {N k : Nat} {f : Nat → Int32} (h : k < N) (hN : N < 2 ^ 31) : getI N f (nI k) = f k := by
  rw [getI, if_neg (nI_pos (by omega)), if_neg (show ¬ Int32.ofNat N ≤ nI k from nI_ge h hN), nI_clamp (by omega)]
theorem gL {N k : Nat} {f : Nat → Int64} (h : k < N) (hN : N < 2 ^ 31) : getL N f (nI k) = f k := by
  rw [getL, if_neg (nI_pos (by omega)), if_neg (show ¬ Int32.ofNat N ≤ nI k from nI_ge h hN), nI_clamp (by omega)]
theorem gT {N x y : Nat} {T : Nat → Nat → Int64} (h : x < N) (hN : N < 2 ^ 31) (hy : y < 120) : getT N T (nI x) (nI y) = T x y := by
  rw [getT, if_neg (nI_pos (by omega)), if_pos (show nI x < Int32.ofNat N from nI_lt h hN), if_neg (nI_pos (by omega)), if_neg (show ¬ Int32.ofNat 120 ≤ nI y from nI_ge hy (by decide)), nI_clamp (by omega), nI_clamp (by omega)]
theorem gTm {N : Nat} {x : Int32} {T : Nat → Nat → Int64} : getT N T x (nI 0 - 1) = 0 := by
  rw [getT]
  split
  · rfl
  · split
    · rw [if_pos (by decide)]
    · rfl
theorem pI {N k : Nat} {f : Nat → Int32} {v : Int32} (h : k < N) (hN : N < 2 ^ 31) : putI N f (nI k) v = upd f k v := by
  rw [putI, if_neg (nI_pos (by omega)), if_neg (show ¬ Int32.ofNat N ≤ nI k from nI_ge h hN), nI_clamp (by omega)]
theorem pL {N k : Nat} {f : Nat → Int64} {v : Int64} (h : k < N) (hN : N < 2 ^ 31) : putL N f (nI k) v = vp_updL f k v := by
  rw [putL, if_neg (nI_pos (by omega)), if_neg (show ¬ Int32.ofNat N ≤ nI k from nI_ge h hN), nI_clamp (by omega)]
theorem pT {N x y : Nat} {T : Nat → Nat → Int64} {v : Int64} (h : x < N) (hN : N < 2 ^ 31) (hy : y < 120) : putT N T (nI x) (nI y) v = va_up T x (vp_updL (T x) y v) := by
  rw [putT, if_neg (nI_pos (by omega)), if_neg (show ¬ Int32.ofNat N ≤ nI x from nI_ge h hN), if_neg (nI_pos (by omega)), if_neg (show ¬ Int32.ofNat 120 ≤ nI y from nI_ge hy (by decide)), nI_clamp (by omega), nI_clamp (by omega)]
theorem nI_sub {a b : Nat} (h : b ≤ a) : nI a - nI b = nI (a - b) := by
  have e : nI a = nI (a - b) + nI b := by rw [nI_add]; congr 1; omega
  rw [e, Int32.add_sub_cancel]
/-- times that rise -/
def VT (t : Nat → Int32) (i : Nat) : Prop := ∃ f : Nat → Nat, (∀ j, j ≤ i → t j = nI (f j) ∧ f j ≤ 120000) ∧ ∀ j k, j ≤ k → k ≤ i → f j ≤ f k
theorem VT.le {t : Nat → Int32} {i j : Nat} (h : VT t i) (hj : j ≤ i) : VT t j := by
  obtain ⟨f, h1, h2⟩ := h
  exact ⟨f, fun k hk => h1 k (by omega), fun a b hab hb => h2 a b hab (by omega)⟩
/-- bounds of the class: none, or some up to 1000 -/
def bdC (τ : CS) (n : Nat) : Prop := (τ.2.2.1 27 n = 1000000 ∧ τ.2.2.1 25 n = 0) ∨ ∃ l h : Nat, τ.2.2.1 25 n = nI l ∧ τ.2.2.1 27 n = nI h ∧ l ≤ 1000 ∧ h ≤ 1000
theorem bT9 {b : Bool} (h : ¬ b = false) : b = true := by cases b with
  | false => exact absurd rfl h
  | true => rfl
section CSm
variable {τ : CS} {n m i L : Nat}
theorem wiC (hb : bdC τ n) (ht : VT (τ.2.2.1 46) i) {j : Nat} (hj : j ≤ i) : wiV (τ.2.2.1 25 n) (hiC (τ.2.2.1 27 n)) (τ.2.2.1 46) j i = (decide (¬ (τ.2.2.1 46 i - τ.2.2.1 46 j) < τ.2.2.1 25 n) && decide (¬ τ.2.2.1 27 n < (τ.2.2.1 46 i - τ.2.2.1 46 j))) := by
  obtain ⟨f, h1, h2⟩ := ht
  have ea : τ.2.2.1 46 i - τ.2.2.1 46 j = nI (f i - f j) := by rw [(h1 i (Nat.le_refl _)).1, (h1 j hj).1, nI_sub (h2 j i hj (Nat.le_refl _))]
  have hfi := (h1 i (Nat.le_refl _)).2
  rcases hb with ⟨e1, e2⟩ | ⟨l, h, e1, e2, e3, e4⟩
  · rw [ea, e1, e2, wiV, hiC, if_pos rfl]
    have a1 : ¬ nI (f i - f j) < 0 := nI_pos (by omega)
    have a2 : ¬ (1000000 : Int32) < nI (f i - f j) := nI_nlt (a := 1000000) (by omega) (by omega)
    simp [a1, a2]
  · have : hiC (τ.2.2.1 27 n) = nI h := by rw [hiC, e2, if_neg (fun e => by rw [show (1000000 : Int32) = nI 1000000 from rfl, nI_eq (by omega) (by omega)] at e; omega)]
    rw [this, ea, e1, e2, wiV, ea]
    have a1 : ¬ nI h = (-1 : Int32) := nI_n1 (by omega)
    simp [a1]
theorem far (hb : bdC τ n) (ht : VT (τ.2.2.1 46) i) {k : Nat} (hk : k ≤ i) (hf : τ.2.2.1 27 n < (τ.2.2.1 46 i - τ.2.2.1 46 k)) {j : Nat} (hj : j ≤ k) : wiV (τ.2.2.1 25 n) (hiC (τ.2.2.1 27 n)) (τ.2.2.1 46) j i = false := by
  rw [wiC hb ht (by omega)]
  obtain ⟨f, h1, h2⟩ := ht
  have ea : ∀ j, j ≤ i → τ.2.2.1 46 i - τ.2.2.1 46 j = nI (f i - f j) := fun j hj => by rw [(h1 i (Nat.le_refl _)).1, (h1 j hj).1, nI_sub (h2 j i hj (Nat.le_refl _))]
  have hfi := (h1 i (Nat.le_refl _)).2
  rw [ea k hk] at hf
  rw [ea j (by omega)]
  have hm := h2 j k hj hk
  have : τ.2.2.1 27 n < nI (f i - f j) := by
    rcases hb with ⟨e1, -⟩ | ⟨l, h, -, e2, -, e4⟩
    · rw [e1] at hf ⊢
      exact absurd hf (nI_nlt (a := 1000000) (by omega) (by omega))
    · rw [e2] at hf ⊢
      rw [nI_ltI (by omega) (by omega)] at hf ⊢
      omega
  simp [this]
theorem onV_no {lo hi : Int32} {t : Nat → Int32} {A : Nat → Int64} {i : Nat} : ∀ n, (∀ j, j < n → wiV lo hi t j i = false) → onV lo hi t A i n = false
  | 0, _ => rfl
  | n+1, h => by rw [onV, onV_no n (fun j hj => h j (by omega)), h n (by omega)]; simp
theorem siV_no {lo hi : Int32} {t : Nat → Int32} {A B : Nat → Int64} {i : Nat} : ∀ n, (∀ j, j < n → wiV lo hi t j i = false) → siV lo hi t A B i n = false
  | 0, _ => rfl
  | n+1, h => by rw [siV, siV_no n (fun j hj => h j (by omega)), h n (by omega)]; simp
theorem wiV_all {lo : Int32} {t : Nat → Int32} {j i : Nat} : wiV lo (-1) t j i = true := by simp [wiV]
theorem onV_all {lo : Int32} {t : Nat → Int32} {A : Nat → Int64} {i i' : Nat} : ∀ n, onV lo (-1) t A i n = onV lo (-1) t A i' n
  | 0 => rfl
  | n+1 => by rw [onV, onV, onV_all n, wiV_all, wiV_all]
theorem siV_all {lo : Int32} {t : Nat → Int32} {A B : Nat → Int64} {i i' : Nat} : ∀ n, siV lo (-1) t A B i n = siV lo (-1) t A B i' n
  | 0 => rfl
  | n+1 => by rw [siV, siV, siV_all n, wiV_all, wiV_all]
theorem miV_all {lo : Int32} {t : Nat → Int32} {A : Nat → Int64} {i i' : Nat} : ∀ n, (miV lo (-1) t A i n).isNone = (miV lo (-1) t A i' n).isNone
  | 0 => rfl
  | n+1 => by
    have ih := miV_all (lo := lo) (t := t) (A := A) (i := i) (i' := i') n
    rw [miV, miV, wiV_all, wiV_all]
    cases h : miV lo (-1) t A i n <;> cases h2 : miV lo (-1) t A i' n <;> rw [h, h2] at ih <;> simp_all
theorem miV_all1 {lo : Int32} {t : Nat → Int32} {A : Nat → Int64} {i n : Nat} : (miV lo (-1) t A i (n + 1)).isNone = (nzV (A n) && (miV lo (-1) t A i n).isNone) := by
  rw [miV, wiV_all]
  cases miV lo (-1) t A i n with
  | some j => simp
  | none => cases nzV (A n) <;> simp
theorem miV_stay {lo hi : Int32} {t : Nat → Int32} {A : Nat → Int64} {i k j : Nat} (h : miV lo hi t A i k = some j) : ∀ d, miV lo hi t A i (k + d) = some j
  | 0 => h
  | d+1 => by rw [← Nat.add_assoc, miV, miV_stay h d]
theorem gTc {m j : Nat} (hm : m < 1200) (hj : j < 120) : getT 1200 (τ.2.2.2.2 2) (nI m) (nI j) = cellC τ m j := gT hm (by decide) hj
theorem cFirst (hn : n < 1200) (hm : m < 1200) {j : Nat} (hj : j < 120) (hf : τ.2.2.1 19 n = nI m) : FX6_first (nI n) (nI j) τ = some (cellC τ m j, τ) := by
  rw [FX6_first, gI hn (by decide), hf, gT hm (by decide) hj]; rfl
theorem cSecond (hn : n < 1200) (hm : m < 1200) {j : Nat} (hj : j < 120) (hf : τ.2.2.1 21 n = nI m) : FX6_second (nI n) (nI j) τ = some (cellC τ m j, τ) := by
  rw [FX6_second, gI hn (by decide), hf, gT hm (by decide) hj]; rfl
theorem cAge {j : Nat} (hi : i < 120) (hj : j < 120) : FX6_age (nI i) (nI j) τ = some (τ.2.2.1 46 i - τ.2.2.1 46 j, τ) := by
  rw [FX6_age, gI hi (by decide), gI hj (by decide)]
theorem cEndless (hn : n < 1200) : FX6_isEndless (nI n) τ = some (bI (decide (τ.2.2.1 27 n = 1000000)), τ) := by
  rw [FX6_isEndless, gI hn (by decide)]
  by_cases h : τ.2.2.1 27 n = 1000000
  · rw [if_pos h]; simp [h, bI]
  · rw [if_neg h]; simp [h, bI]
def pvC (τ : CS) (m i : Nat) : Int64 := if i = 0 then 0 else cellC τ m (i - 1)
theorem cPrev (hm : m < 1200) (hi : i < 120) : getT 1200 (τ.2.2.2.2 2) (nI m) (nI i - 1) = pvC τ m i := by
  cases i with
  | zero => rw [gTm]; rfl
  | succ i => rw [nI_pred, gT hm (by decide) (by omega)]; rfl
theorem cOnce1 (hn : n < 1200) (hm : m < 1200) (hi : i < 120) (hf : τ.2.2.1 19 n = nI m) (hb : bdC τ n) (ht : VT (τ.2.2.1 46) i) : ∀ (k fuel : Nat), k ≤ i + 1 → k < fuel → FX6_once_69 L fuel (nI n) (nI i) (τ.2.2.1 27 n) (τ.2.2.1 25 n) (xkI k) τ = some (bI (onV (τ.2.2.1 25 n) (hiC (τ.2.2.1 27 n)) (τ.2.2.1 46) (cellC τ m) i k), τ) := by
  intro k
  induction k with
  | zero =>
    intro fuel hk hfu
    obtain ⟨q, rfl⟩ : ∃ z, fuel = z + 1 := ⟨fuel - 1, by omega⟩
    rw [FX6_once_69, if_pos (by decide)]; rfl
  | succ k ih =>
    intro fuel hk hfu
    obtain ⟨q, rfl⟩ : ∃ z, fuel = z + 1 := ⟨fuel - 1, by omega⟩
    have ih := ih q (by omega) (by omega)
    show FX6_once_69 L (q + 1) (nI n) (nI i) _ _ (nI k) τ = _
    rw [FX6_once_69, if_neg (nI_pos (by omega)), cAge hi (by omega), b2r]
    by_cases h1 : τ.2.2.1 27 n < (τ.2.2.1 46 i - τ.2.2.1 46 k)
    · rw [if_pos h1, onV_no (k + 1) (fun j hj => far hb ht (by omega) h1 (by omega))]; rfl
    · rw [if_neg h1, cAge hi (by omega), b2r, onV, wiC hb ht (show k ≤ i by omega)]
      by_cases h2 : (τ.2.2.1 46 i - τ.2.2.1 46 k) < τ.2.2.1 25 n
      · rw [if_pos h2, xk_m1, ih]; simp [h2]
      · rw [if_neg h2, cFirst hn hm (by omega) hf, b2r]
        by_cases h3 : cellC τ m k = 0
        · rw [if_pos h3, xk_m1, ih]; simp [h3, nzV]
        · rw [if_neg h3]; simp [h1, h2, h3, nzV, bI]
theorem hiC_e {h : Int32} (e : h = 1000000) : hiC h = -1 := by rw [hiC, if_pos e]
theorem cOnce (hn : n < 1200) (hm : m < 1200) (hi : i < 120) (hL : 200 ≤ L) (hf : τ.2.2.1 19 n = nI m) (hb : bdC τ n) (ht : VT (τ.2.2.1 46) i) (ho : i ≠ 0 → cellC τ n (i - 1) = b2l (onV (τ.2.2.1 25 n) (hiC (τ.2.2.1 27 n)) (τ.2.2.1 46) (cellC τ m) (i - 1) (i - 1 + 1))) : FX6_once L (nI n) (nI i) τ = some (bI (onV (τ.2.2.1 25 n) (hiC (τ.2.2.1 27 n)) (τ.2.2.1 46) (cellC τ m) i (i + 1)), τ) := by
  rw [FX6_once, cEndless hn, b2r, ibI]
  by_cases he : τ.2.2.1 27 n = 1000000
  · rw [if_pos (by simp [he]), cFirst hn hm hi hf, b2r, cPrev hn hi, hiC_e he, onV, wiV_all]
    rw [hiC_e he] at ho
    have e2 : (pvC τ n i = 0) ↔ onV (τ.2.2.1 25 n) (-1) (τ.2.2.1 46) (cellC τ m) i i = false := by
      unfold pvC
      cases i with
      | zero => simp [onV]
      | succ i =>
        rw [if_neg (by omega), ho (by omega), onV_all (i' := i + 1)]
        simp only [Nat.add_sub_cancel]
        cases onV (τ.2.2.1 25 n) (-1) (τ.2.2.1 46) (cellC τ m) (i + 1) (i + 1) <;> simp [b2l]
    by_cases h3 : cellC τ m i = 0
    · rw [if_pos h3]
      by_cases h4 : pvC τ n i = 0
      · rw [if_pos h4, e2.mp h4]; simp [h3, nzV, bI]
      · rw [if_neg h4, bT9 (fun e => h4 (e2.mpr e))]; simp [bI]
    · rw [if_neg h3]; simp [h3, nzV, bI]
  · rw [if_neg (by simp [he]), gI hn (by decide), gI hn (by decide)]
    exact cOnce1 hn hm hi hf hb ht (i + 1) L (Nat.le_refl _) (by omega)
theorem cBreak1 (hn : n < 1200) (hm : m < 1200) (hi : i < 120) (hf : τ.2.2.1 19 n = nI m) (hb : bdC τ n) (ht : VT (τ.2.2.1 46) i) : ∀ (d k fuel : Nat), k + d = i + 1 → d < fuel → miV (τ.2.2.1 25 n) (hiC (τ.2.2.1 27 n)) (τ.2.2.1 46) (cellC τ m) i k = none → FX6_firstBreak_28 L fuel (nI n) (nI i) (τ.2.2.1 27 n) (τ.2.2.1 25 n) (nI k) τ = some (opI (miV (τ.2.2.1 25 n) (hiC (τ.2.2.1 27 n)) (τ.2.2.1 46) (cellC τ m) i (i + 1)), τ) := by
  intro d
  induction d with
  | zero =>
    intro k fuel hk hfu h0
    obtain ⟨q, rfl⟩ : ∃ z, fuel = z + 1 := ⟨fuel - 1, by omega⟩
    rw [FX6_firstBreak_28, if_pos (nI_lt (by omega) (by omega)), show i + 1 = k by omega, h0]; rfl
  | succ d ih =>
    intro k fuel hk hfu h0
    obtain ⟨q, rfl⟩ : ∃ z, fuel = z + 1 := ⟨fuel - 1, by omega⟩
    have ih := ih (k + 1) q (by omega) (by omega)
    rw [miV, h0] at ih
    simp only [] at ih
    rw [wiC hb ht (show k ≤ i by omega), nI_succ] at ih
    rw [FX6_firstBreak_28, if_neg (nI_nlt (by omega) (by omega)), cAge hi (by omega), b2r]
    by_cases h2 : (τ.2.2.1 46 i - τ.2.2.1 46 k) < τ.2.2.1 25 n
    · rw [if_pos h2]; exact ih (by simp [h2])
    · rw [if_neg h2]
      by_cases h1 : τ.2.2.1 27 n < (τ.2.2.1 46 i - τ.2.2.1 46 k)
      · rw [if_pos h1]; exact ih (by simp [h1])
      · rw [if_neg h1, cFirst hn hm (by omega) hf, b2r]
        by_cases h3 : cellC τ m k = 0
        · rw [if_pos h3]
          have : miV (τ.2.2.1 25 n) (hiC (τ.2.2.1 27 n)) (τ.2.2.1 46) (cellC τ m) i (k + 1) = some k := by
            rw [miV, h0]; simp only []; rw [wiC hb ht (show k ≤ i by omega)]; simp [h1, h2, h3, nzV]
          have := miV_stay this d
          rw [show k + 1 + d = i + 1 by omega] at this
          rw [this]; rfl
        · rw [if_neg h3]; exact ih (by simp [h3, nzV])
theorem cBreak (hn : n < 1200) (hm : m < 1200) (hi : i < 120) (hL : 200 ≤ L) (hf : τ.2.2.1 19 n = nI m) (hb : bdC τ n) (ht : VT (τ.2.2.1 46) i) : FX6_firstBreak L (nI n) (nI i) τ = some (opI (miV (τ.2.2.1 25 n) (hiC (τ.2.2.1 27 n)) (τ.2.2.1 46) (cellC τ m) i (i + 1)), τ) := by
  rw [FX6_firstBreak, gI hn (by decide), gI hn (by decide)]
  exact cBreak1 hn hm hi hf hb ht (i + 1) 0 L (by omega) (by omega) rfl
theorem cAlways (hn : n < 1200) (hm : m < 1200) (hi : i < 120) (hL : 200 ≤ L) (hf : τ.2.2.1 19 n = nI m) (hb : bdC τ n) (ht : VT (τ.2.2.1 46) i) (ho : i ≠ 0 → cellC τ n (i - 1) = b2l (miV (τ.2.2.1 25 n) (hiC (τ.2.2.1 27 n)) (τ.2.2.1 46) (cellC τ m) (i - 1) (i - 1 + 1)).isNone) : FX6_always L (nI n) (nI i) τ = some (bI (miV (τ.2.2.1 25 n) (hiC (τ.2.2.1 27 n)) (τ.2.2.1 46) (cellC τ m) i (i + 1)).isNone, τ) := by
  rw [FX6_always, cEndless hn, b2r, ibI]
  by_cases he : τ.2.2.1 27 n = 1000000
  · rw [if_pos (by simp [he]), cFirst hn hm hi hf, b2r, cPrev hn hi, hiC_e he, miV_all1]
    rw [hiC_e he] at ho
    by_cases h3 : cellC τ m i = 0
    · rw [if_pos h3]; simp [h3, nzV, bI]
    · rw [if_neg h3]
      cases i with
      | zero => rw [if_pos nI_0]; simp [h3, nzV, miV, bI]
      | succ i =>
        rw [if_neg (nI_ne0 (by omega) (by omega))]
        have e2 : (pvC τ n (i + 1) = 0) ↔ (miV (τ.2.2.1 25 n) (-1) (τ.2.2.1 46) (cellC τ m) (i + 1) (i + 1)).isNone = false := by
          unfold pvC
          rw [if_neg (by omega), ho (by omega), miV_all (i' := i + 1)]
          simp only [Nat.add_sub_cancel]
          cases (miV (τ.2.2.1 25 n) (-1) (τ.2.2.1 46) (cellC τ m) (i + 1) (i + 1)).isNone <;> simp [b2l]
        by_cases h4 : pvC τ n (i + 1) = 0
        · rw [if_pos h4, e2.mp h4]; simp [bI]
        · rw [if_neg h4, bT9 (fun e => h4 (e2.mpr e))]; simp [h3, nzV, bI]
  · rw [if_neg (by simp [he]), cBreak hn hm hi hL hf hb ht, b2r]
    cases h : miV (τ.2.2.1 25 n) (hiC (τ.2.2.1 27 n)) (τ.2.2.1 46) (cellC τ m) i (i + 1) with
    | none => rfl
    | some j => have := miV_lt _ h; rw [if_neg (show ¬ opI (some j) = -1 from nI_n1 (by omega))]; rfl
theorem cSince1 {m2 : Nat} (hn : n < 1200) (hm : m < 1200) (hm2 : m2 < 1200) (hi : i < 120) (hf : τ.2.2.1 19 n = nI m) (hf2 : τ.2.2.1 21 n = nI m2) (hb : bdC τ n) (ht : VT (τ.2.2.1 46) i) : ∀ (k fuel : Nat), k ≤ i + 1 → k < fuel → FX6_since_80 L fuel (nI n) (nI i) (τ.2.2.1 27 n) (τ.2.2.1 25 n) (xkI k) τ = some (bI (siV (τ.2.2.1 25 n) (hiC (τ.2.2.1 27 n)) (τ.2.2.1 46) (cellC τ m) (cellC τ m2) i k), τ) := by
  intro k
  induction k with
  | zero =>
    intro fuel hk hfu
    obtain ⟨q, rfl⟩ : ∃ z, fuel = z + 1 := ⟨fuel - 1, by omega⟩
    rw [FX6_since_80, if_pos (by decide)]; rfl
  | succ k ih =>
    intro fuel hk hfu
    obtain ⟨q, rfl⟩ : ∃ z, fuel = z + 1 := ⟨fuel - 1, by omega⟩
    have ih := ih q (by omega) (by omega)
    have tail : FX6_since_122 L (FX6_since_80 L q) (nI n) (nI i) (τ.2.2.1 27 n) (τ.2.2.1 25 n) (nI k) τ = some (bI (nzV (cellC τ m k) && siV (τ.2.2.1 25 n) (hiC (τ.2.2.1 27 n)) (τ.2.2.1 46) (cellC τ m) (cellC τ m2) i k), τ) := by
      rw [FX6_since_122, cFirst hn hm (by omega) hf, b2r]
      by_cases h3 : cellC τ m k = 0
      · rw [if_pos h3]; simp [h3, nzV, bI]
      · rw [if_neg h3, xk_m1, ih]; simp [h3, nzV]
    show FX6_since_80 L (q + 1) (nI n) (nI i) _ _ (nI k) τ = _
    rw [FX6_since_80, if_neg (nI_pos (by omega)), cAge hi (by omega), b2r]
    by_cases h1 : τ.2.2.1 27 n < (τ.2.2.1 46 i - τ.2.2.1 46 k)
    · rw [if_pos h1, siV_no (k + 1) (fun j hj => far hb ht (by omega) h1 (by omega))]; rfl
    · rw [if_neg h1, cAge hi (by omega), b2r, siV, wiC hb ht (show k ≤ i by omega)]
      by_cases h2 : (τ.2.2.1 46 i - τ.2.2.1 46 k) < τ.2.2.1 25 n
      · rw [if_pos h2, tail]; simp [h2]
      · rw [if_neg h2, cSecond hn hm2 (by omega) hf2, b2r]
        by_cases h3 : cellC τ m2 k = 0
        · rw [if_pos h3, tail]; simp [h3, nzV]
        · rw [if_neg h3]; simp [h1, h2, h3, nzV, bI]
theorem cSince {m2 : Nat} (hn : n < 1200) (hm : m < 1200) (hm2 : m2 < 1200) (hi : i < 120) (hL : 200 ≤ L) (hf : τ.2.2.1 19 n = nI m) (hf2 : τ.2.2.1 21 n = nI m2) (hb : bdC τ n) (ht : VT (τ.2.2.1 46) i) (ho : i ≠ 0 → cellC τ n (i - 1) = b2l (siV (τ.2.2.1 25 n) (hiC (τ.2.2.1 27 n)) (τ.2.2.1 46) (cellC τ m) (cellC τ m2) (i - 1) (i - 1 + 1))) : FX6_since L (nI n) (nI i) τ = some (bI (siV (τ.2.2.1 25 n) (hiC (τ.2.2.1 27 n)) (τ.2.2.1 46) (cellC τ m) (cellC τ m2) i (i + 1)), τ) := by
  rw [FX6_since, cEndless hn, b2r, ibI]
  by_cases he : τ.2.2.1 27 n = 1000000
  · rw [if_pos (by simp [he]), cSecond hn hm2 hi hf2, b2r, cFirst hn hm hi hf, b2r, cPrev hn hi, hiC_e he, siV, wiV_all]
    rw [hiC_e he] at ho
    have e2 : (pvC τ n i = 0) ↔ siV (τ.2.2.1 25 n) (-1) (τ.2.2.1 46) (cellC τ m) (cellC τ m2) i i = false := by
      unfold pvC
      cases i with
      | zero => simp [siV]
      | succ i =>
        rw [if_neg (by omega), ho (by omega), siV_all (i' := i + 1)]
        simp only [Nat.add_sub_cancel]
        cases siV (τ.2.2.1 25 n) (-1) (τ.2.2.1 46) (cellC τ m) (cellC τ m2) (i + 1) (i + 1) <;> simp [b2l]
    by_cases h3 : cellC τ m2 i = 0
    · rw [if_pos h3]
      by_cases h5 : cellC τ m i = 0
      · rw [if_pos h5]; simp [h3, h5, nzV, bI]
      · rw [if_neg h5]
        by_cases h4 : pvC τ n i = 0
        · rw [if_pos h4, e2.mp h4]; simp [h3, nzV, bI]
        · rw [if_neg h4, bT9 (fun e => h4 (e2.mpr e))]; simp [h5, nzV, bI]
    · rw [if_neg h3]; simp [h3, nzV, bI]
  · rw [if_neg (by simp [he]), gI hn (by decide), gI hn (by decide)]
    exact cSince1 hn hm hm2 hi hf hf2 hb ht (i + 1) L (Nat.le_refl _) (by omega)
theorem cHoldsE {p0 p1 : Int32} : FX6_holds L p0 p1 τ = FX6_holds_33 L p0 p1 (getT 1200 (τ.2.2.2.2 2) (getI 1200 (τ.2.2.1 19) p0) p1) (getT 1200 (τ.2.2.2.2 2) (getI 1200 (τ.2.2.1 21) p0) p1) (bI (nzV (getT 1200 (τ.2.2.2.2 2) (getI 1200 (τ.2.2.1 19) p0) (p1 - 1)))) τ := by
  rw [FX6_holds, FX6_first, b2r, FX6_second, b2r, FX6_first, b2r]
  by_cases h : getT 1200 (τ.2.2.2.2 2) (getI 1200 (τ.2.2.1 19) p0) (p1 - 1) = 0
  · rw [if_pos h]; simp [h, nzV, bI]
  · rw [if_neg h]; simp [h, nzV, bI]
theorem cHolds_5 (hn : n < 1200) (hi : i < 120) (hL : 200 ≤ L) (hk : τ.2.2.1 15 n = 5) (hm : m < 1200) (hf1 : τ.2.2.1 19 n = nI m) : FX6_holds L (nI n) (nI i) τ = some (bI (!nzV (cellC τ m i)), τ) := by
  rw [cHoldsE, FX6_holds_33, gI hn (by decide), gI hn (by decide), gI hn (by decide), hk, if_pos rfl]
  rw [hf1, gTc hm hi]
  by_cases h : cellC τ m i = 0
  · rw [if_pos h]; simp [h, nzV, bI]
  · rw [if_neg h]; simp [h, nzV, bI]
theorem cHolds_6 (hn : n < 1200) (hi : i < 120) (hL : 200 ≤ L) (hk : τ.2.2.1 15 n = 6) (hm : m < 1200) (hf1 : τ.2.2.1 19 n = nI m) : FX6_holds L (nI n) (nI i) τ = some (bI (nzV (pvC τ m i)), τ) := by
  rw [cHoldsE, FX6_holds_33, gI hn (by decide), gI hn (by decide), gI hn (by decide), hk, if_neg (show ¬ ((6 : Int32) = 5) by decide), if_pos rfl]
  rw [hf1, cPrev hm hi, if_neg bI_nn]
theorem cHolds_7 (hn : n < 1200) (hi : i < 120) (hL : 200 ≤ L) (hk : τ.2.2.1 15 n = 7) (hm : m < 1200) (hf1 : τ.2.2.1 19 n = nI m) : FX6_holds L (nI n) (nI i) τ = some (bI (nzV (cellC τ m i) && !nzV (pvC τ m i)), τ) := by
  rw [cHoldsE, FX6_holds_33, gI hn (by decide), gI hn (by decide), gI hn (by decide), hk, if_neg (show ¬ ((7 : Int32) = 5) by decide), if_neg (show ¬ ((7 : Int32) = 6) by decide), if_pos rfl]
  rw [hf1, gTc hm hi, cPrev hm hi]
  by_cases h : cellC τ m i = 0
  · rw [if_pos h]; simp [h, nzV, bI]
  · rw [if_neg h]; cases hp : nzV (pvC τ m i) <;> simp [h, nzV, bI]
theorem cHolds_8 (hn : n < 1200) (hi : i < 120) (hL : 200 ≤ L) (hk : τ.2.2.1 15 n = 8) (hm : m < 1200) (hf1 : τ.2.2.1 19 n = nI m) : FX6_holds L (nI n) (nI i) τ = some (bI (!nzV (cellC τ m i) && nzV (pvC τ m i)), τ) := by
  rw [cHoldsE, FX6_holds_33, gI hn (by decide), gI hn (by decide), gI hn (by decide), hk, if_neg (show ¬ ((8 : Int32) = 5) by decide), if_neg (show ¬ ((8 : Int32) = 6) by decide), if_neg (show ¬ ((8 : Int32) = 7) by decide), if_pos rfl]
  rw [hf1, gTc hm hi, cPrev hm hi]
  by_cases h : cellC τ m i = 0
  · rw [if_pos h]; cases hp : nzV (pvC τ m i) <;> simp [h, nzV, bI]
  · rw [if_neg h]; simp [h, nzV, bI]
theorem cHolds_9 (hn : n < 1200) (hi : i < 120) (hL : 200 ≤ L) (hk : τ.2.2.1 15 n = 9) (hm : m < 1200) (hf1 : τ.2.2.1 19 n = nI m) (hb : bdC τ n) (ht : VT (τ.2.2.1 46) i) (ho : i ≠ 0 → cellC τ n (i - 1) = b2l (onV (τ.2.2.1 25 n) (hiC (τ.2.2.1 27 n)) (τ.2.2.1 46) (cellC τ m) (i - 1) (i - 1 + 1))) : FX6_holds L (nI n) (nI i) τ = some (bI (onV (τ.2.2.1 25 n) (hiC (τ.2.2.1 27 n)) (τ.2.2.1 46) (cellC τ m) i (i + 1)), τ) := by
  rw [cHoldsE, FX6_holds_33, gI hn (by decide), gI hn (by decide), gI hn (by decide), hk, if_neg (show ¬ ((9 : Int32) = 5) by decide), if_neg (show ¬ ((9 : Int32) = 6) by decide), if_neg (show ¬ ((9 : Int32) = 7) by decide), if_neg (show ¬ ((9 : Int32) = 8) by decide), if_pos rfl]
  rw [cOnce hn hm hi hL hf1 hb ht ho, b2r, if_neg bI_nn]
theorem cHolds_10 (hn : n < 1200) (hi : i < 120) (hL : 200 ≤ L) (hk : τ.2.2.1 15 n = 10) (hm : m < 1200) (hf1 : τ.2.2.1 19 n = nI m) (hb : bdC τ n) (ht : VT (τ.2.2.1 46) i) (ho : i ≠ 0 → cellC τ n (i - 1) = b2l (miV (τ.2.2.1 25 n) (hiC (τ.2.2.1 27 n)) (τ.2.2.1 46) (cellC τ m) (i - 1) (i - 1 + 1)).isNone) : FX6_holds L (nI n) (nI i) τ = some (bI ((miV (τ.2.2.1 25 n) (hiC (τ.2.2.1 27 n)) (τ.2.2.1 46) (cellC τ m) i (i + 1)).isNone), τ) := by
  rw [cHoldsE, FX6_holds_33, gI hn (by decide), gI hn (by decide), gI hn (by decide), hk, if_neg (show ¬ ((10 : Int32) = 5) by decide), if_neg (show ¬ ((10 : Int32) = 6) by decide), if_neg (show ¬ ((10 : Int32) = 7) by decide), if_neg (show ¬ ((10 : Int32) = 8) by decide), if_neg (show ¬ ((10 : Int32) = 9) by decide), if_pos rfl]
  rw [cAlways hn hm hi hL hf1 hb ht ho, b2r, if_neg bI_nn]
theorem cHolds_11 (hn : n < 1200) (hi : i < 120) (hL : 200 ≤ L) (hk : τ.2.2.1 15 n = 11) (hm : m < 1200) (hf1 : τ.2.2.1 19 n = nI m) {m2 : Nat} (hm2 : m2 < 1200) (hf2 : τ.2.2.1 21 n = nI m2) (hb : bdC τ n) (ht : VT (τ.2.2.1 46) i) (ho : i ≠ 0 → cellC τ n (i - 1) = b2l (siV (τ.2.2.1 25 n) (hiC (τ.2.2.1 27 n)) (τ.2.2.1 46) (cellC τ m) (cellC τ m2) (i - 1) (i - 1 + 1))) : FX6_holds L (nI n) (nI i) τ = some (bI (siV (τ.2.2.1 25 n) (hiC (τ.2.2.1 27 n)) (τ.2.2.1 46) (cellC τ m) (cellC τ m2) i (i + 1)), τ) := by
  rw [cHoldsE, FX6_holds_33, gI hn (by decide), gI hn (by decide), gI hn (by decide), hk, if_neg (show ¬ ((11 : Int32) = 5) by decide), if_neg (show ¬ ((11 : Int32) = 6) by decide), if_neg (show ¬ ((11 : Int32) = 7) by decide), if_neg (show ¬ ((11 : Int32) = 8) by decide), if_neg (show ¬ ((11 : Int32) = 9) by decide), if_neg (show ¬ ((11 : Int32) = 10) by decide), if_pos rfl]
  rw [cSince hn hm hm2 hi hL hf1 hf2 hb ht ho, b2r, if_neg bI_nn]
theorem cHolds_12 (hn : n < 1200) (hi : i < 120) (hL : 200 ≤ L) (hk : τ.2.2.1 15 n = 12) (hm : m < 1200) (hf1 : τ.2.2.1 19 n = nI m) {m2 : Nat} (hm2 : m2 < 1200) (hf2 : τ.2.2.1 21 n = nI m2) : FX6_holds L (nI n) (nI i) τ = some (bI (nzV (cellC τ m i) && nzV (cellC τ m2 i)), τ) := by
  rw [cHoldsE, FX6_holds_33, gI hn (by decide), gI hn (by decide), gI hn (by decide), hk, if_neg (show ¬ ((12 : Int32) = 5) by decide), if_neg (show ¬ ((12 : Int32) = 6) by decide), if_neg (show ¬ ((12 : Int32) = 7) by decide), if_neg (show ¬ ((12 : Int32) = 8) by decide), if_neg (show ¬ ((12 : Int32) = 9) by decide), if_neg (show ¬ ((12 : Int32) = 10) by decide), if_neg (show ¬ ((12 : Int32) = 11) by decide), if_pos rfl]
  rw [hf1, hf2, gTc hm hi, gTc hm2 hi]
  by_cases h : cellC τ m i = 0 <;> by_cases h2 : cellC τ m2 i = 0 <;> simp [h, h2, nzV, bI]
theorem cHolds_13 (hn : n < 1200) (hi : i < 120) (hL : 200 ≤ L) (hk : τ.2.2.1 15 n = 13) (hm : m < 1200) (hf1 : τ.2.2.1 19 n = nI m) {m2 : Nat} (hm2 : m2 < 1200) (hf2 : τ.2.2.1 21 n = nI m2) : FX6_holds L (nI n) (nI i) τ = some (bI (nzV (cellC τ m i) || nzV (cellC τ m2 i)), τ) := by
  rw [cHoldsE, FX6_holds_33, gI hn (by decide), gI hn (by decide), gI hn (by decide), hk, if_neg (show ¬ ((13 : Int32) = 5) by decide), if_neg (show ¬ ((13 : Int32) = 6) by decide), if_neg (show ¬ ((13 : Int32) = 7) by decide), if_neg (show ¬ ((13 : Int32) = 8) by decide), if_neg (show ¬ ((13 : Int32) = 9) by decide), if_neg (show ¬ ((13 : Int32) = 10) by decide), if_neg (show ¬ ((13 : Int32) = 11) by decide), if_neg (show ¬ ((13 : Int32) = 12) by decide), if_pos rfl]
  rw [hf1, hf2, gTc hm hi, gTc hm2 hi]
  by_cases h : cellC τ m i = 0 <;> by_cases h2 : cellC τ m2 i = 0 <;> simp [h, h2, nzV, bI]
theorem cHolds_14 (hn : n < 1200) (hi : i < 120) (hL : 200 ≤ L) (hk : τ.2.2.1 15 n = 14) (hm : m < 1200) (hf1 : τ.2.2.1 19 n = nI m) {m2 : Nat} (hm2 : m2 < 1200) (hf2 : τ.2.2.1 21 n = nI m2) : FX6_holds L (nI n) (nI i) τ = some (bI (!nzV (cellC τ m i) || nzV (cellC τ m2 i)), τ) := by
  rw [cHoldsE, FX6_holds_33, gI hn (by decide), gI hn (by decide), gI hn (by decide), hk, if_neg (show ¬ ((14 : Int32) = 5) by decide), if_neg (show ¬ ((14 : Int32) = 6) by decide), if_neg (show ¬ ((14 : Int32) = 7) by decide), if_neg (show ¬ ((14 : Int32) = 8) by decide), if_neg (show ¬ ((14 : Int32) = 9) by decide), if_neg (show ¬ ((14 : Int32) = 10) by decide), if_neg (show ¬ ((14 : Int32) = 11) by decide), if_neg (show ¬ ((14 : Int32) = 12) by decide), if_neg (show ¬ ((14 : Int32) = 13) by decide), if_pos rfl]
  rw [hf1, hf2, gTc hm hi, gTc hm2 hi]
  by_cases h : cellC τ m i = 0 <;> by_cases h2 : cellC τ m2 i = 0 <;> simp [h, h2, nzV, bI]
theorem cHolds_16 (hn : n < 1200) (hi : i < 120) (hL : 200 ≤ L) (hk : τ.2.2.1 15 n = 16) : FX6_holds L (nI n) (nI i) τ = some (bI (true), τ) := by
  rw [cHoldsE, FX6_holds_33, gI hn (by decide), gI hn (by decide), gI hn (by decide), hk, if_neg (show ¬ ((16 : Int32) = 5) by decide), if_neg (show ¬ ((16 : Int32) = 6) by decide), if_neg (show ¬ ((16 : Int32) = 7) by decide), if_neg (show ¬ ((16 : Int32) = 8) by decide), if_neg (show ¬ ((16 : Int32) = 9) by decide), if_neg (show ¬ ((16 : Int32) = 10) by decide), if_neg (show ¬ ((16 : Int32) = 11) by decide), if_neg (show ¬ ((16 : Int32) = 12) by decide), if_neg (show ¬ ((16 : Int32) = 13) by decide), if_neg (show ¬ ((16 : Int32) = 14) by decide), if_pos rfl]
  rfl
theorem cHolds_17 (hn : n < 1200) (hi : i < 120) (hL : 200 ≤ L) (hk : τ.2.2.1 15 n = 17) : FX6_holds L (nI n) (nI i) τ = some (bI (false), τ) := by
  rw [cHoldsE, FX6_holds_33, gI hn (by decide), gI hn (by decide), gI hn (by decide), hk, if_neg (show ¬ ((17 : Int32) = 5) by decide), if_neg (show ¬ ((17 : Int32) = 6) by decide), if_neg (show ¬ ((17 : Int32) = 7) by decide), if_neg (show ¬ ((17 : Int32) = 8) by decide), if_neg (show ¬ ((17 : Int32) = 9) by decide), if_neg (show ¬ ((17 : Int32) = 10) by decide), if_neg (show ¬ ((17 : Int32) = 11) by decide), if_neg (show ¬ ((17 : Int32) = 12) by decide), if_neg (show ¬ ((17 : Int32) = 13) by decide), if_neg (show ¬ ((17 : Int32) = 14) by decide), if_neg (show ¬ ((17 : Int32) = 16) by decide), if_neg (show ¬ ((17 : Int32) = 44) by decide), if_neg (show ¬ ((17 : Int32) = 45) by decide), if_neg (show ¬ ((17 : Int32) = 46) by decide), if_neg (show ¬ ((17 : Int32) = 47) by decide), if_neg (show ¬ ((17 : Int32) = 48) by decide), if_neg (show ¬ ((17 : Int32) = 49) by decide)]
  rfl
theorem cHolds_44 (hn : n < 1200) (hi : i < 120) (hL : 200 ≤ L) (hk : τ.2.2.1 15 n = 44) (hm : m < 1200) (hf1 : τ.2.2.1 19 n = nI m) {m2 : Nat} (hm2 : m2 < 1200) (hf2 : τ.2.2.1 21 n = nI m2) : FX6_holds L (nI n) (nI i) τ = some (bI (cmpV 0 (cellC τ m i) (cellC τ m2 i)), τ) := by
  rw [cHoldsE, FX6_holds_33, gI hn (by decide), gI hn (by decide), gI hn (by decide), hk, if_neg (show ¬ ((44 : Int32) = 5) by decide), if_neg (show ¬ ((44 : Int32) = 6) by decide), if_neg (show ¬ ((44 : Int32) = 7) by decide), if_neg (show ¬ ((44 : Int32) = 8) by decide), if_neg (show ¬ ((44 : Int32) = 9) by decide), if_neg (show ¬ ((44 : Int32) = 10) by decide), if_neg (show ¬ ((44 : Int32) = 11) by decide), if_neg (show ¬ ((44 : Int32) = 12) by decide), if_neg (show ¬ ((44 : Int32) = 13) by decide), if_neg (show ¬ ((44 : Int32) = 14) by decide), if_neg (show ¬ ((44 : Int32) = 16) by decide), if_pos rfl]
  rw [hf1, hf2, gTc hm hi, gTc hm2 hi]
  by_cases h : cellC τ m i = cellC τ m2 i <;> simp [cmpV, h, bI]
theorem cHolds_45 (hn : n < 1200) (hi : i < 120) (hL : 200 ≤ L) (hk : τ.2.2.1 15 n = 45) (hm : m < 1200) (hf1 : τ.2.2.1 19 n = nI m) {m2 : Nat} (hm2 : m2 < 1200) (hf2 : τ.2.2.1 21 n = nI m2) : FX6_holds L (nI n) (nI i) τ = some (bI (cmpV 1 (cellC τ m i) (cellC τ m2 i)), τ) := by
  rw [cHoldsE, FX6_holds_33, gI hn (by decide), gI hn (by decide), gI hn (by decide), hk, if_neg (show ¬ ((45 : Int32) = 5) by decide), if_neg (show ¬ ((45 : Int32) = 6) by decide), if_neg (show ¬ ((45 : Int32) = 7) by decide), if_neg (show ¬ ((45 : Int32) = 8) by decide), if_neg (show ¬ ((45 : Int32) = 9) by decide), if_neg (show ¬ ((45 : Int32) = 10) by decide), if_neg (show ¬ ((45 : Int32) = 11) by decide), if_neg (show ¬ ((45 : Int32) = 12) by decide), if_neg (show ¬ ((45 : Int32) = 13) by decide), if_neg (show ¬ ((45 : Int32) = 14) by decide), if_neg (show ¬ ((45 : Int32) = 16) by decide), if_neg (show ¬ ((45 : Int32) = 44) by decide), if_pos rfl]
  rw [hf1, hf2, gTc hm hi, gTc hm2 hi]
  by_cases h : cellC τ m i = cellC τ m2 i <;> simp [cmpV, h, bI]
theorem cHolds_46 (hn : n < 1200) (hi : i < 120) (hL : 200 ≤ L) (hk : τ.2.2.1 15 n = 46) (hm : m < 1200) (hf1 : τ.2.2.1 19 n = nI m) {m2 : Nat} (hm2 : m2 < 1200) (hf2 : τ.2.2.1 21 n = nI m2) : FX6_holds L (nI n) (nI i) τ = some (bI (cmpV 2 (cellC τ m i) (cellC τ m2 i)), τ) := by
  rw [cHoldsE, FX6_holds_33, gI hn (by decide), gI hn (by decide), gI hn (by decide), hk, if_neg (show ¬ ((46 : Int32) = 5) by decide), if_neg (show ¬ ((46 : Int32) = 6) by decide), if_neg (show ¬ ((46 : Int32) = 7) by decide), if_neg (show ¬ ((46 : Int32) = 8) by decide), if_neg (show ¬ ((46 : Int32) = 9) by decide), if_neg (show ¬ ((46 : Int32) = 10) by decide), if_neg (show ¬ ((46 : Int32) = 11) by decide), if_neg (show ¬ ((46 : Int32) = 12) by decide), if_neg (show ¬ ((46 : Int32) = 13) by decide), if_neg (show ¬ ((46 : Int32) = 14) by decide), if_neg (show ¬ ((46 : Int32) = 16) by decide), if_neg (show ¬ ((46 : Int32) = 44) by decide), if_neg (show ¬ ((46 : Int32) = 45) by decide), if_pos rfl]
  rw [hf1, hf2, gTc hm hi, gTc hm2 hi]
  by_cases h : cellC τ m i < cellC τ m2 i <;> simp [cmpV, h, bI]
theorem cHolds_47 (hn : n < 1200) (hi : i < 120) (hL : 200 ≤ L) (hk : τ.2.2.1 15 n = 47) (hm : m < 1200) (hf1 : τ.2.2.1 19 n = nI m) {m2 : Nat} (hm2 : m2 < 1200) (hf2 : τ.2.2.1 21 n = nI m2) : FX6_holds L (nI n) (nI i) τ = some (bI (cmpV 3 (cellC τ m i) (cellC τ m2 i)), τ) := by
  rw [cHoldsE, FX6_holds_33, gI hn (by decide), gI hn (by decide), gI hn (by decide), hk, if_neg (show ¬ ((47 : Int32) = 5) by decide), if_neg (show ¬ ((47 : Int32) = 6) by decide), if_neg (show ¬ ((47 : Int32) = 7) by decide), if_neg (show ¬ ((47 : Int32) = 8) by decide), if_neg (show ¬ ((47 : Int32) = 9) by decide), if_neg (show ¬ ((47 : Int32) = 10) by decide), if_neg (show ¬ ((47 : Int32) = 11) by decide), if_neg (show ¬ ((47 : Int32) = 12) by decide), if_neg (show ¬ ((47 : Int32) = 13) by decide), if_neg (show ¬ ((47 : Int32) = 14) by decide), if_neg (show ¬ ((47 : Int32) = 16) by decide), if_neg (show ¬ ((47 : Int32) = 44) by decide), if_neg (show ¬ ((47 : Int32) = 45) by decide), if_neg (show ¬ ((47 : Int32) = 46) by decide), if_pos rfl]
  rw [hf1, hf2, gTc hm hi, gTc hm2 hi]
  by_cases h : cellC τ m2 i < cellC τ m i <;> simp [cmpV, h, bI]
theorem cHolds_48 (hn : n < 1200) (hi : i < 120) (hL : 200 ≤ L) (hk : τ.2.2.1 15 n = 48) (hm : m < 1200) (hf1 : τ.2.2.1 19 n = nI m) {m2 : Nat} (hm2 : m2 < 1200) (hf2 : τ.2.2.1 21 n = nI m2) : FX6_holds L (nI n) (nI i) τ = some (bI (cmpV 4 (cellC τ m i) (cellC τ m2 i)), τ) := by
  rw [cHoldsE, FX6_holds_33, gI hn (by decide), gI hn (by decide), gI hn (by decide), hk, if_neg (show ¬ ((48 : Int32) = 5) by decide), if_neg (show ¬ ((48 : Int32) = 6) by decide), if_neg (show ¬ ((48 : Int32) = 7) by decide), if_neg (show ¬ ((48 : Int32) = 8) by decide), if_neg (show ¬ ((48 : Int32) = 9) by decide), if_neg (show ¬ ((48 : Int32) = 10) by decide), if_neg (show ¬ ((48 : Int32) = 11) by decide), if_neg (show ¬ ((48 : Int32) = 12) by decide), if_neg (show ¬ ((48 : Int32) = 13) by decide), if_neg (show ¬ ((48 : Int32) = 14) by decide), if_neg (show ¬ ((48 : Int32) = 16) by decide), if_neg (show ¬ ((48 : Int32) = 44) by decide), if_neg (show ¬ ((48 : Int32) = 45) by decide), if_neg (show ¬ ((48 : Int32) = 46) by decide), if_neg (show ¬ ((48 : Int32) = 47) by decide), if_pos rfl]
  rw [hf1, hf2, gTc hm hi, gTc hm2 hi]
  by_cases h : cellC τ m2 i < cellC τ m i <;> simp [cmpV, h, bI]
theorem cHolds_49 (hn : n < 1200) (hi : i < 120) (hL : 200 ≤ L) (hk : τ.2.2.1 15 n = 49) (hm : m < 1200) (hf1 : τ.2.2.1 19 n = nI m) {m2 : Nat} (hm2 : m2 < 1200) (hf2 : τ.2.2.1 21 n = nI m2) : FX6_holds L (nI n) (nI i) τ = some (bI (cmpV 5 (cellC τ m i) (cellC τ m2 i)), τ) := by
  rw [cHoldsE, FX6_holds_33, gI hn (by decide), gI hn (by decide), gI hn (by decide), hk, if_neg (show ¬ ((49 : Int32) = 5) by decide), if_neg (show ¬ ((49 : Int32) = 6) by decide), if_neg (show ¬ ((49 : Int32) = 7) by decide), if_neg (show ¬ ((49 : Int32) = 8) by decide), if_neg (show ¬ ((49 : Int32) = 9) by decide), if_neg (show ¬ ((49 : Int32) = 10) by decide), if_neg (show ¬ ((49 : Int32) = 11) by decide), if_neg (show ¬ ((49 : Int32) = 12) by decide), if_neg (show ¬ ((49 : Int32) = 13) by decide), if_neg (show ¬ ((49 : Int32) = 14) by decide), if_neg (show ¬ ((49 : Int32) = 16) by decide), if_neg (show ¬ ((49 : Int32) = 44) by decide), if_neg (show ¬ ((49 : Int32) = 45) by decide), if_neg (show ¬ ((49 : Int32) = 46) by decide), if_neg (show ¬ ((49 : Int32) = 47) by decide), if_neg (show ¬ ((49 : Int32) = 48) by decide), if_pos rfl]
  rw [hf1, hf2, gTc hm hi, gTc hm2 hi]
  by_cases h : cellC τ m i < cellC τ m2 i <;> simp [cmpV, h, bI]
theorem cNum_0 (hn : n < 1200) (hi : i < 120) (hk : τ.2.2.1 15 n = 0) (hm : m < 8) (hf1 : τ.2.2.1 19 n = nI m) : FX6_number (nI n) (nI i) τ = some ((τ.2.2.2.2 0 m i), τ) := by
  rw [FX6_number, FX6_first, b2r, FX6_second, b2r, gI hn (by decide), gI hn (by decide), gI hn (by decide), gI hn (by decide), hk, if_pos rfl, hf1, gT hm (by decide) hi]
theorem cNum_18 (hn : n < 1200) (hi : i < 120) (hk : τ.2.2.1 15 n = 18) (hm : m < 1200) (hf1 : τ.2.2.1 19 n = nI m) {m2 : Nat} (hm2 : m2 < 1200) (hf2 : τ.2.2.1 21 n = nI m2) {m3 : Nat} (hm3 : m3 < 1200) (hf3 : τ.2.2.1 23 n = nI m3) : FX6_number (nI n) (nI i) τ = some ((if nzV (cellC τ m i) then (cellC τ m2 i) else (cellC τ m3 i)), τ) := by
  rw [FX6_number, FX6_first, b2r, FX6_second, b2r, gI hn (by decide), gI hn (by decide), gI hn (by decide), gI hn (by decide), hk, if_neg (show ¬ ((18 : Int32) = 0) by decide), if_pos rfl, hf1, hf2, hf3, gTc hm hi, gTc hm2 hi, gTc hm3 hi]
  by_cases h : cellC τ m i = 0 <;> simp [h, nzV]
theorem cNum_21 (hn : n < 1200) (hi : i < 120) (hk : τ.2.2.1 15 n = 21) (hm : m < 1200) (hf1 : τ.2.2.1 19 n = nI m) : FX6_number (nI n) (nI i) τ = some (((pvC τ m i)), τ) := by
  rw [FX6_number, FX6_first, b2r, FX6_second, b2r, gI hn (by decide), gI hn (by decide), gI hn (by decide), gI hn (by decide), hk, if_neg (show ¬ ((21 : Int32) = 0) by decide), if_neg (show ¬ ((21 : Int32) = 18) by decide), if_pos rfl, FX6_first, b2r, gI hn (by decide), hf1, cPrev hm hi]
theorem cNum_22 (hn : n < 1200) (hi : i < 120) (hk : τ.2.2.1 15 n = 22) (hm : m < 1200) (hf1 : τ.2.2.1 19 n = nI m) : FX6_number (nI n) (nI i) τ = some ((if i = 0 then (cellC τ m i) else if (cellC τ m i) < (pvC τ n i) then (pvC τ n i) else (cellC τ m i)), τ) := by
  rw [FX6_number, FX6_first, b2r, FX6_second, b2r, gI hn (by decide), gI hn (by decide), gI hn (by decide), gI hn (by decide), hk, if_neg (show ¬ ((22 : Int32) = 0) by decide), if_neg (show ¬ ((22 : Int32) = 18) by decide), if_neg (show ¬ ((22 : Int32) = 21) by decide), if_pos rfl, hf1, gTc hm hi, cPrev hn hi]
  cases i with
  | zero => rw [if_pos nI_0, if_pos rfl]
  | succ i => rw [if_neg (nI_ne0 (by omega) (by omega)), if_neg (show ¬ (i + 1 = 0) by omega)]
theorem cNum_23 (hn : n < 1200) (hi : i < 120) (hk : τ.2.2.1 15 n = 23) (hm : m < 1200) (hf1 : τ.2.2.1 19 n = nI m) : FX6_number (nI n) (nI i) τ = some ((if i = 0 then (cellC τ m i) else if (cellC τ m i) < (pvC τ n i) then (cellC τ m i) else (pvC τ n i)), τ) := by
  rw [FX6_number, FX6_first, b2r, FX6_second, b2r, gI hn (by decide), gI hn (by decide), gI hn (by decide), gI hn (by decide), hk, if_neg (show ¬ ((23 : Int32) = 0) by decide), if_neg (show ¬ ((23 : Int32) = 18) by decide), if_neg (show ¬ ((23 : Int32) = 21) by decide), if_neg (show ¬ ((23 : Int32) = 22) by decide), if_pos rfl, hf1, gTc hm hi, cPrev hn hi]
  cases i with
  | zero => rw [if_pos nI_0, if_pos rfl]
  | succ i => rw [if_neg (nI_ne0 (by omega) (by omega)), if_neg (show ¬ (i + 1 = 0) by omega)]
theorem cNum_24 (hn : n < 1200) (hi : i < 120) (hk : τ.2.2.1 15 n = 24) (hm : m < 1200) (hf1 : τ.2.2.1 19 n = nI m) : FX6_number (nI n) (nI i) τ = some (((pvC τ n i) + (cellC τ m i)), τ) := by
  rw [FX6_number, FX6_first, b2r, FX6_second, b2r, gI hn (by decide), gI hn (by decide), gI hn (by decide), gI hn (by decide), hk, if_neg (show ¬ ((24 : Int32) = 0) by decide), if_neg (show ¬ ((24 : Int32) = 18) by decide), if_neg (show ¬ ((24 : Int32) = 21) by decide), if_neg (show ¬ ((24 : Int32) = 22) by decide), if_neg (show ¬ ((24 : Int32) = 23) by decide), if_pos rfl, cPrev hn hi, hf1, gTc hm hi]
theorem cNum_25 (hn : n < 1200) (hi : i < 120) (hk : τ.2.2.1 15 n = 25) (hm : m < 1200) (hf1 : τ.2.2.1 19 n = nI m) : FX6_number (nI n) (nI i) τ = some (((pvC τ n i) + (cellC τ m i)), τ) := by
  rw [FX6_number, FX6_first, b2r, FX6_second, b2r, gI hn (by decide), gI hn (by decide), gI hn (by decide), gI hn (by decide), hk, if_neg (show ¬ ((25 : Int32) = 0) by decide), if_neg (show ¬ ((25 : Int32) = 18) by decide), if_neg (show ¬ ((25 : Int32) = 21) by decide), if_neg (show ¬ ((25 : Int32) = 22) by decide), if_neg (show ¬ ((25 : Int32) = 23) by decide), if_neg (show ¬ ((25 : Int32) = 24) by decide), if_pos rfl, cPrev hn hi, hf1, gTc hm hi]
theorem cNum_26 (hn : n < 1200) (hi : i < 120) (hk : τ.2.2.1 15 n = 26) (hm : m < 1200) (hf1 : τ.2.2.1 19 n = nI m) {m2 : Nat} (hm2 : m2 < 1200) (hf2 : τ.2.2.1 21 n = nI m2) : FX6_number (nI n) (nI i) τ = some ((if nzV (cellC τ m i) then (cellC τ m2 i) else (pvC τ n i)), τ) := by
  rw [FX6_number, FX6_first, b2r, FX6_second, b2r, gI hn (by decide), gI hn (by decide), gI hn (by decide), gI hn (by decide), hk, if_neg (show ¬ ((26 : Int32) = 0) by decide), if_neg (show ¬ ((26 : Int32) = 18) by decide), if_neg (show ¬ ((26 : Int32) = 21) by decide), if_neg (show ¬ ((26 : Int32) = 22) by decide), if_neg (show ¬ ((26 : Int32) = 23) by decide), if_neg (show ¬ ((26 : Int32) = 24) by decide), if_neg (show ¬ ((26 : Int32) = 25) by decide), if_pos rfl, hf1, hf2, gTc hm hi, gTc hm2 hi, cPrev hn hi]
  by_cases h : cellC τ m i = 0 <;> simp [h, nzV]
theorem cNum_27 (hn : n < 1200) (hi : i < 120) (hk : τ.2.2.1 15 n = 27) (hm : m < 1200) (hf1 : τ.2.2.1 19 n = nI m) : FX6_number (nI n) (nI i) τ = some ((if nzV (cellC τ m i) then 0 else if i = 0 then -1 else if ¬ (pvC τ n i) < 0 then (pvC τ n i) + (τ.2.2.1 46 i - τ.2.2.1 46 (i - 1)).toInt64 else -1), τ) := by
  rw [FX6_number, FX6_first, b2r, FX6_second, b2r, gI hn (by decide), gI hn (by decide), gI hn (by decide), gI hn (by decide), hk, if_neg (show ¬ ((27 : Int32) = 0) by decide), if_neg (show ¬ ((27 : Int32) = 18) by decide), if_neg (show ¬ ((27 : Int32) = 21) by decide), if_neg (show ¬ ((27 : Int32) = 22) by decide), if_neg (show ¬ ((27 : Int32) = 23) by decide), if_neg (show ¬ ((27 : Int32) = 24) by decide), if_neg (show ¬ ((27 : Int32) = 25) by decide), if_neg (show ¬ ((27 : Int32) = 26) by decide), if_pos rfl, hf1, gTc hm hi, cPrev hn hi, FX6_ageOfLast]
  by_cases h : cellC τ m i = 0
  · rw [if_pos h, if_neg (show ¬ (nzV (cellC τ m i) = true) by simp [h, nzV])]
    cases i with
    | zero => rw [if_pos nI_0, if_pos rfl]; rfl
    | succ i =>
      rw [if_neg (nI_ne0 (by omega) (by omega)), if_neg (show ¬ (i + 1 = 0) by omega)]
      by_cases h2 : pvC τ n (i + 1) < 0
      · rw [if_neg (show ¬ ¬ pvC τ n (i + 1) < 0 by simp [h2]), if_neg (show ¬ ¬ pvC τ n (i + 1) < 0 by simp [h2])]; rfl
      · rw [if_pos h2, if_pos h2, nI_pred, cAge hi (by omega)]; rfl
  · rw [if_neg h, if_pos (show nzV (cellC τ m i) = true by simp [h, nzV])]
theorem cNum_28 (hn : n < 1200) (hi : i < 120) (hk : τ.2.2.1 15 n = 28) : FX6_number (nI n) (nI i) τ = some (((τ.2.2.1 46 i).toInt64), τ) := by
  rw [FX6_number, FX6_first, b2r, FX6_second, b2r, gI hn (by decide), gI hn (by decide), gI hn (by decide), gI hn (by decide), hk, if_neg (show ¬ ((28 : Int32) = 0) by decide), if_neg (show ¬ ((28 : Int32) = 18) by decide), if_neg (show ¬ ((28 : Int32) = 21) by decide), if_neg (show ¬ ((28 : Int32) = 22) by decide), if_neg (show ¬ ((28 : Int32) = 23) by decide), if_neg (show ¬ ((28 : Int32) = 24) by decide), if_neg (show ¬ ((28 : Int32) = 25) by decide), if_neg (show ¬ ((28 : Int32) = 26) by decide), if_neg (show ¬ ((28 : Int32) = 27) by decide), if_pos rfl, gI hi (by decide)]
theorem cNum_29 (hn : n < 1200) (hi : i < 120) (hk : τ.2.2.1 15 n = 29) : FX6_number (nI n) (nI i) τ = some (((nI i).toInt64), τ) := by
  rw [FX6_number, FX6_first, b2r, FX6_second, b2r, gI hn (by decide), gI hn (by decide), gI hn (by decide), gI hn (by decide), hk, if_neg (show ¬ ((29 : Int32) = 0) by decide), if_neg (show ¬ ((29 : Int32) = 18) by decide), if_neg (show ¬ ((29 : Int32) = 21) by decide), if_neg (show ¬ ((29 : Int32) = 22) by decide), if_neg (show ¬ ((29 : Int32) = 23) by decide), if_neg (show ¬ ((29 : Int32) = 24) by decide), if_neg (show ¬ ((29 : Int32) = 25) by decide), if_neg (show ¬ ((29 : Int32) = 26) by decide), if_neg (show ¬ ((29 : Int32) = 27) by decide), if_neg (show ¬ ((29 : Int32) = 28) by decide), if_pos rfl]
theorem cNum_39 (hn : n < 1200) (hi : i < 120) (hk : τ.2.2.1 15 n = 39) (hm : m < 1200) (hf1 : τ.2.2.1 19 n = nI m) {m2 : Nat} (hm2 : m2 < 1200) (hf2 : τ.2.2.1 21 n = nI m2) : FX6_number (nI n) (nI i) τ = some (((cellC τ m i) + (cellC τ m2 i)), τ) := by
  rw [FX6_number, FX6_first, b2r, FX6_second, b2r, gI hn (by decide), gI hn (by decide), gI hn (by decide), gI hn (by decide), hk, if_neg (show ¬ ((39 : Int32) = 0) by decide), if_neg (show ¬ ((39 : Int32) = 18) by decide), if_neg (show ¬ ((39 : Int32) = 21) by decide), if_neg (show ¬ ((39 : Int32) = 22) by decide), if_neg (show ¬ ((39 : Int32) = 23) by decide), if_neg (show ¬ ((39 : Int32) = 24) by decide), if_neg (show ¬ ((39 : Int32) = 25) by decide), if_neg (show ¬ ((39 : Int32) = 26) by decide), if_neg (show ¬ ((39 : Int32) = 27) by decide), if_neg (show ¬ ((39 : Int32) = 28) by decide), if_neg (show ¬ ((39 : Int32) = 29) by decide), if_pos rfl, hf1, hf2, gTc hm hi, gTc hm2 hi]
theorem cNum_40 (hn : n < 1200) (hi : i < 120) (hk : τ.2.2.1 15 n = 40) (hm : m < 1200) (hf1 : τ.2.2.1 19 n = nI m) {m2 : Nat} (hm2 : m2 < 1200) (hf2 : τ.2.2.1 21 n = nI m2) : FX6_number (nI n) (nI i) τ = some (((cellC τ m i) - (cellC τ m2 i)), τ) := by
  rw [FX6_number, FX6_first, b2r, FX6_second, b2r, gI hn (by decide), gI hn (by decide), gI hn (by decide), gI hn (by decide), hk, if_neg (show ¬ ((40 : Int32) = 0) by decide), if_neg (show ¬ ((40 : Int32) = 18) by decide), if_neg (show ¬ ((40 : Int32) = 21) by decide), if_neg (show ¬ ((40 : Int32) = 22) by decide), if_neg (show ¬ ((40 : Int32) = 23) by decide), if_neg (show ¬ ((40 : Int32) = 24) by decide), if_neg (show ¬ ((40 : Int32) = 25) by decide), if_neg (show ¬ ((40 : Int32) = 26) by decide), if_neg (show ¬ ((40 : Int32) = 27) by decide), if_neg (show ¬ ((40 : Int32) = 28) by decide), if_neg (show ¬ ((40 : Int32) = 29) by decide), if_neg (show ¬ ((40 : Int32) = 39) by decide), if_pos rfl, hf1, hf2, gTc hm hi, gTc hm2 hi]
theorem cNum_41 (hn : n < 1200) (hi : i < 120) (hk : τ.2.2.1 15 n = 41) (hm : m < 1200) (hf1 : τ.2.2.1 19 n = nI m) {m2 : Nat} (hm2 : m2 < 1200) (hf2 : τ.2.2.1 21 n = nI m2) : FX6_number (nI n) (nI i) τ = some (((cellC τ m i) * (cellC τ m2 i)), τ) := by
  rw [FX6_number, FX6_first, b2r, FX6_second, b2r, gI hn (by decide), gI hn (by decide), gI hn (by decide), gI hn (by decide), hk, if_neg (show ¬ ((41 : Int32) = 0) by decide), if_neg (show ¬ ((41 : Int32) = 18) by decide), if_neg (show ¬ ((41 : Int32) = 21) by decide), if_neg (show ¬ ((41 : Int32) = 22) by decide), if_neg (show ¬ ((41 : Int32) = 23) by decide), if_neg (show ¬ ((41 : Int32) = 24) by decide), if_neg (show ¬ ((41 : Int32) = 25) by decide), if_neg (show ¬ ((41 : Int32) = 26) by decide), if_neg (show ¬ ((41 : Int32) = 27) by decide), if_neg (show ¬ ((41 : Int32) = 28) by decide), if_neg (show ¬ ((41 : Int32) = 29) by decide), if_neg (show ¬ ((41 : Int32) = 39) by decide), if_neg (show ¬ ((41 : Int32) = 40) by decide), if_pos rfl, hf1, hf2, gTc hm hi, gTc hm2 hi]
theorem cNum_42 (hn : n < 1200) (hi : i < 120) (hk : τ.2.2.1 15 n = 42) (hm : m < 1200) (hf1 : τ.2.2.1 19 n = nI m) {m2 : Nat} (hm2 : m2 < 1200) (hf2 : τ.2.2.1 21 n = nI m2) : FX6_number (nI n) (nI i) τ = some ((if (cellC τ m2 i) = 0 then 0 else (cellC τ m i) / (cellC τ m2 i)), τ) := by
  rw [FX6_number, FX6_first, b2r, FX6_second, b2r, gI hn (by decide), gI hn (by decide), gI hn (by decide), gI hn (by decide), hk, if_neg (show ¬ ((42 : Int32) = 0) by decide), if_neg (show ¬ ((42 : Int32) = 18) by decide), if_neg (show ¬ ((42 : Int32) = 21) by decide), if_neg (show ¬ ((42 : Int32) = 22) by decide), if_neg (show ¬ ((42 : Int32) = 23) by decide), if_neg (show ¬ ((42 : Int32) = 24) by decide), if_neg (show ¬ ((42 : Int32) = 25) by decide), if_neg (show ¬ ((42 : Int32) = 26) by decide), if_neg (show ¬ ((42 : Int32) = 27) by decide), if_neg (show ¬ ((42 : Int32) = 28) by decide), if_neg (show ¬ ((42 : Int32) = 29) by decide), if_neg (show ¬ ((42 : Int32) = 39) by decide), if_neg (show ¬ ((42 : Int32) = 40) by decide), if_neg (show ¬ ((42 : Int32) = 41) by decide), if_pos rfl, hf1, hf2, gTc hm hi, gTc hm2 hi]
  by_cases h : cellC τ m2 i = 0
  · rw [if_pos h, if_pos h]
  · rw [if_neg h, if_neg h, if_neg h]
theorem cNum_43 (hn : n < 1200) (hi : i < 120) (hk : τ.2.2.1 15 n = 43) (hm : m < 1200) (hf1 : τ.2.2.1 19 n = nI m) {m2 : Nat} (hm2 : m2 < 1200) (hf2 : τ.2.2.1 21 n = nI m2) : FX6_number (nI n) (nI i) τ = some ((if (cellC τ m2 i) = 0 then 0 else (cellC τ m i) - (cellC τ m i) / (cellC τ m2 i) * (cellC τ m2 i)), τ) := by
  rw [FX6_number, FX6_first, b2r, FX6_second, b2r, gI hn (by decide), gI hn (by decide), gI hn (by decide), gI hn (by decide), hk, if_neg (show ¬ ((43 : Int32) = 0) by decide), if_neg (show ¬ ((43 : Int32) = 18) by decide), if_neg (show ¬ ((43 : Int32) = 21) by decide), if_neg (show ¬ ((43 : Int32) = 22) by decide), if_neg (show ¬ ((43 : Int32) = 23) by decide), if_neg (show ¬ ((43 : Int32) = 24) by decide), if_neg (show ¬ ((43 : Int32) = 25) by decide), if_neg (show ¬ ((43 : Int32) = 26) by decide), if_neg (show ¬ ((43 : Int32) = 27) by decide), if_neg (show ¬ ((43 : Int32) = 28) by decide), if_neg (show ¬ ((43 : Int32) = 29) by decide), if_neg (show ¬ ((43 : Int32) = 39) by decide), if_neg (show ¬ ((43 : Int32) = 40) by decide), if_neg (show ¬ ((43 : Int32) = 41) by decide), if_neg (show ¬ ((43 : Int32) = 42) by decide), if_pos rfl, hf1, hf2, gTc hm hi, gTc hm2 hi]
  by_cases h : cellC τ m2 i = 0
  · rw [if_pos h, if_pos h]
  · rw [if_neg h, if_neg h, if_neg h]
theorem cNum_52 (hn : n < 1200) (hi : i < 120) (hk : τ.2.2.1 15 n = 52) : FX6_number (nI n) (nI i) τ = some (((τ.2.2.1 19 n).toInt64), τ) := by
  rw [FX6_number, FX6_first, b2r, FX6_second, b2r, gI hn (by decide), gI hn (by decide), gI hn (by decide), gI hn (by decide), hk, if_neg (show ¬ ((52 : Int32) = 0) by decide), if_neg (show ¬ ((52 : Int32) = 18) by decide), if_neg (show ¬ ((52 : Int32) = 21) by decide), if_neg (show ¬ ((52 : Int32) = 22) by decide), if_neg (show ¬ ((52 : Int32) = 23) by decide), if_neg (show ¬ ((52 : Int32) = 24) by decide), if_neg (show ¬ ((52 : Int32) = 25) by decide), if_neg (show ¬ ((52 : Int32) = 26) by decide), if_neg (show ¬ ((52 : Int32) = 27) by decide), if_neg (show ¬ ((52 : Int32) = 28) by decide), if_neg (show ¬ ((52 : Int32) = 29) by decide), if_neg (show ¬ ((52 : Int32) = 39) by decide), if_neg (show ¬ ((52 : Int32) = 40) by decide), if_neg (show ¬ ((52 : Int32) = 41) by decide), if_neg (show ¬ ((52 : Int32) = 42) by decide), if_neg (show ¬ ((52 : Int32) = 43) by decide), if_pos rfl]
theorem cNum_55 (hn : n < 1200) (hi : i < 120) (hk : τ.2.2.1 15 n = 55) (hm : m < 1200) (hf1 : τ.2.2.1 19 n = nI m) : FX6_number (nI n) (nI i) τ = some ((-(cellC τ m i)), τ) := by
  rw [FX6_number, FX6_first, b2r, FX6_second, b2r, gI hn (by decide), gI hn (by decide), gI hn (by decide), gI hn (by decide), hk, if_neg (show ¬ ((55 : Int32) = 0) by decide), if_neg (show ¬ ((55 : Int32) = 18) by decide), if_neg (show ¬ ((55 : Int32) = 21) by decide), if_neg (show ¬ ((55 : Int32) = 22) by decide), if_neg (show ¬ ((55 : Int32) = 23) by decide), if_neg (show ¬ ((55 : Int32) = 24) by decide), if_neg (show ¬ ((55 : Int32) = 25) by decide), if_neg (show ¬ ((55 : Int32) = 26) by decide), if_neg (show ¬ ((55 : Int32) = 27) by decide), if_neg (show ¬ ((55 : Int32) = 28) by decide), if_neg (show ¬ ((55 : Int32) = 29) by decide), if_neg (show ¬ ((55 : Int32) = 39) by decide), if_neg (show ¬ ((55 : Int32) = 40) by decide), if_neg (show ¬ ((55 : Int32) = 41) by decide), if_neg (show ¬ ((55 : Int32) = 42) by decide), if_neg (show ¬ ((55 : Int32) = 43) by decide), if_neg (show ¬ ((55 : Int32) = 52) by decide), if_pos rfl, hf1, gTc hm hi]
end CSm
