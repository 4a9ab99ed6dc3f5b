-- the reference's question comes to its place
section MV
variable {σ σ0 σ1 σ2 : MS} {pn by' fr nx L : Nat}
/-- a number of a part, moved -/
def mvI (fr by' : Nat) (kd which a : Int32) : Int32 := if kd = 20 ∨ kd = 21 then a else if which < 3 ∨ kd = 33 then (if a < nI fr then a else a - nI by') else a
theorem mvI_eq {kd which a : Int32} : ((FX11_isPart kd which).bind fun r => FX11_moved a (nI fr) (nI by') r) = some (mvI fr by' kd which a) := by
  unfold FX11_isPart mvI
  by_cases c1 : kd = 20
  · rw [if_pos c1, if_pos (Or.inl c1)]; rfl
  rw [if_neg c1]
  by_cases c2 : kd = 21
  · rw [if_pos c2, if_pos (Or.inr c2)]; rfl
  rw [if_neg c2, if_neg (show ¬ (kd = 20 ∨ kd = 21) from fun z => z.elim c1 c2)]
  by_cases c3 : which < 3
  · rw [if_pos c3, if_pos (Or.inl c3), obS, FX11_moved, if_neg (by decide)]
    by_cases c4 : a < nI fr
    · rw [if_pos c4, if_pos c4]
    · rw [if_neg c4, if_neg c4]
  rw [if_neg c3]
  by_cases c5 : kd = 33
  · rw [if_pos c5, if_pos (Or.inr c5), obS, FX11_moved, if_neg (by decide)]
    by_cases c4 : a < nI fr
    · rw [if_pos c4, if_pos c4]
    · rw [if_neg c4, if_neg c4]
  · rw [if_neg c5, if_neg (fun z => z.elim c3 c5)]; rfl
/-- a part's numbers after the move -/
def mvR (fr by' : Nat) (r0 : Nat → Nat → Int32) (j q : Nat) : Int32 := if j = 10 then mvI fr by' (r0 9 q) 1 (r0 10 q) else if j = 11 then mvI fr by' (r0 9 q) 2 (r0 11 q) else if j = 12 then mvI fr by' (r0 9 q) 3 (r0 12 q) else r0 j q
/-- while the parts move -/
def MvS (pn by' fr i : Nat) (σ0 σ : MS) : Prop := σ.1 = σ0.1 ∧ (∀ j, (j < 9 ∨ 15 < j) → σ.2.1 j = σ0.2.1 j) ∧ (∀ j q, 9 ≤ j → j ≤ 15 → σ.2.1 j q = if pn ≤ q ∧ q < pn + i then mvR fr by' σ0.2.1 j (q + by') else σ0.2.1 j q) ∧ σ.2.2 = σ0.2.2
theorem mvUp {f : Nat → Int32} {g : Nat → Int32} {h : Nat → Int32} {i : Nat} {v : Int32} (hf : ∀ q, f q = if pn ≤ q ∧ q < pn + i then g q else h q) (hv : v = g (pn + i)) : ∀ q, upd f (pn + i) v q = if pn ≤ q ∧ q < pn + (i + 1) then g q else h q := by
  intro q
  by_cases z : q = pn + i
  · rw [z, upd_s, if_pos (by omega), hv]
  · rw [upd_n z, hf q]
    by_cases y : pn ≤ q ∧ q < pn + i
    · rw [if_pos y, if_pos (by omega)]
    · rw [if_neg y, if_neg (by omega)]
theorem rMoveL (hfr : fr = pn + by') (hnx : nx ≤ 1203) (h8 : σ0.1 8 = nI nx) (hL : L = 5000) : ∀ (d i f : Nat) (σ : MS), fr + i + d = nx → d < f → MvS pn by' fr i σ0 σ → ∃ σ', FX11_moveQuestion_9 L f (nI fr) (nI by') (nI (fr + i)) σ = some (σ0.1 17 - nI by', sI σ' 8 (nI nx - nI by')) ∧ MvS pn by' fr (nx - fr) σ0 σ'
  | 0, i, f, σ, hd, hf, h => by
    obtain ⟨f, rfl⟩ : ∃ z, f = z + 1 := ⟨f - 1, by omega⟩
    have e : i = nx - fr := by omega
    refine ⟨σ, ?_, by rw [← e]; exact h⟩
    rw [FX11_moveQuestion_9, h.1, h8, if_pos (nI_le (by omega) (by omega))]
  | d+1, i, f, σ, hd, hf, h => by
    obtain ⟨f, rfl⟩ : ∃ z, f = z + 1 := ⟨f - 1, by omega⟩
    obtain ⟨a1, a2, a3, a4⟩ := id h
    have e1 : nI (fr + i) - nI by' = nI (pn + i) := by rw [nI_sub (by omega)]; congr 1; omega
    have in1 : ¬ (nI (fr + i) < 0 ∨ 1203 ≤ (nI (fr + i)).toNatClampNeg) := nI_in (by omega) (by decide)
    have in2 : ¬ (nI (pn + i) < 0 ∨ 1203 ≤ (nI (pn + i)).toNatClampNeg) := nI_in (by omega) (by decide)
    have in1' : ¬ (nI (fr + i) < 0 ∨ 1203 ≤ fr + i) := nI_i (by omega) (by decide)
    have in2' : ¬ (nI (pn + i) < 0 ∨ 1203 ≤ pn + i) := nI_i (by omega) (by decide)
    have cl1 : (nI (fr + i)).toNatClampNeg = fr + i := nI_clamp (by omega)
    have cl2 : (nI (pn + i)).toNatClampNeg = pn + i := nI_clamp (by omega)
    have rd : ∀ j, 9 ≤ j → j ≤ 15 → σ.2.1 j (fr + i) = σ0.2.1 j (pn + i + by') := fun j h1 h2 => by
      rw [a3 j (fr + i) h1 h2, if_neg (by omega), show pn + i + by' = fr + i by omega]
    have k9 : upd (σ.2.1 9) (pn + i) (σ.2.1 9 (fr + i)) (fr + i) = σ0.2.1 9 (pn + i + by') := by
      by_cases z : fr + i = pn + i
      · rw [show upd (σ.2.1 9) (pn + i) (σ.2.1 9 (fr + i)) (fr + i) = σ.2.1 9 (fr + i) by
          unfold upd; rw [if_pos z], rd 9 (by decide) (by decide)]
      · rw [upd_n z, rd 9 (by decide) (by decide)]
    have hm : ∀ w a, ((FX11_isPart (σ0.2.1 9 (pn + i + by')) w).bind fun r => FX11_moved a (nI fr) (nI by') r) = some (mvI fr by' (σ0.2.1 9 (pn + i + by')) w a) := fun w a => mvI_eq
    have step : ∀ (w a : Int32) (g : Int32 → Option (Int32 × MS)), ((FX11_isPart (σ0.2.1 9 (pn + i + by')) w).bind fun r => (FX11_moved a (nI fr) (nI by') r).bind g) = g (mvI fr by' (σ0.2.1 9 (pn + i + by')) w a) := fun w a g => by
      have := hm w a
      cases hp : FX11_isPart (σ0.2.1 9 (pn + i + by')) w with
      | none => rw [hp] at this; cases this
      | some r =>
        rw [hp, obS] at this
        rw [obS, this, obS]
    have hx : ∃ σ1, σ1 = sA (sA (sA (sA (sA (sA (sA σ 9 (upd (σ.2.1 9) (pn + i) (σ.2.1 9 (fr + i)))) 10 (upd (σ.2.1 10) (pn + i) (mvI fr by' (σ0.2.1 9 (pn + i + by')) 1 (σ.2.1 10 (fr + i))))) 11 (upd (σ.2.1 11) (pn + i) (mvI fr by' (σ0.2.1 9 (pn + i + by')) 2 (σ.2.1 11 (fr + i))))) 12 (upd (σ.2.1 12) (pn + i) (mvI fr by' (σ0.2.1 9 (pn + i + by')) 3 (σ.2.1 12 (fr + i))))) 13 (upd (σ.2.1 13) (pn + i) (σ.2.1 13 (fr + i)))) 14 (upd (σ.2.1 14) (pn + i) (σ.2.1 14 (fr + i)))) 15 (upd (σ.2.1 15) (pn + i) (σ.2.1 15 (fr + i))) := ⟨_, rfl⟩
    obtain ⟨σ1, hσ1⟩ := hx
    have u9 : σ1.2.1 9 = upd (σ.2.1 9) (pn + i) (σ.2.1 9 (fr + i)) := by rw [hσ1, sA_o (by decide), sA_o (by decide), sA_o (by decide), sA_o (by decide), sA_o (by decide), sA_o (by decide), sA_row]
    have u10 : σ1.2.1 10 = upd (σ.2.1 10) (pn + i) (mvI fr by' (σ0.2.1 9 (pn + i + by')) 1 (σ.2.1 10 (fr + i))) := by rw [hσ1, sA_o (by decide), sA_o (by decide), sA_o (by decide), sA_o (by decide), sA_o (by decide), sA_row]
    have u11 : σ1.2.1 11 = upd (σ.2.1 11) (pn + i) (mvI fr by' (σ0.2.1 9 (pn + i + by')) 2 (σ.2.1 11 (fr + i))) := by rw [hσ1, sA_o (by decide), sA_o (by decide), sA_o (by decide), sA_o (by decide), sA_row]
    have u12 : σ1.2.1 12 = upd (σ.2.1 12) (pn + i) (mvI fr by' (σ0.2.1 9 (pn + i + by')) 3 (σ.2.1 12 (fr + i))) := by rw [hσ1, sA_o (by decide), sA_o (by decide), sA_o (by decide), sA_row]
    have u13 : σ1.2.1 13 = upd (σ.2.1 13) (pn + i) (σ.2.1 13 (fr + i)) := by rw [hσ1, sA_o (by decide), sA_o (by decide), sA_row]
    have u14 : σ1.2.1 14 = upd (σ.2.1 14) (pn + i) (σ.2.1 14 (fr + i)) := by rw [hσ1, sA_o (by decide), sA_row]
    have u15 : σ1.2.1 15 = upd (σ.2.1 15) (pn + i) (σ.2.1 15 (fr + i)) := by rw [hσ1, sA_row]
    have h' : MvS pn by' fr (i + 1) σ0 σ1 := by
      refine ⟨by rw [hσ1]; exact a1, fun j hj => ?_, fun j q h1 h2 => ?_, by rw [hσ1]; exact a4⟩
      · rw [hσ1, sA_o (by omega), sA_o (by omega), sA_o (by omega), sA_o (by omega), sA_o (by omega), sA_o (by omega), sA_o (by omega)]; exact a2 j hj
      · have : j = 9 ∨ j = 10 ∨ j = 11 ∨ j = 12 ∨ j = 13 ∨ j = 14 ∨ j = 15 := by omega
        rcases this with rfl | rfl | rfl | rfl | rfl | rfl | rfl
        · rw [u9]; exact mvUp (g := fun q => mvR fr by' σ0.2.1 9 (q + by')) (fun q => a3 9 q (by decide) (by decide)) (rd 9 (by decide) (by decide)) q
        · rw [u10]; exact mvUp (g := fun q => mvR fr by' σ0.2.1 10 (q + by')) (fun q => a3 10 q (by decide) (by decide)) (by rw [rd 10 (by decide) (by decide)]; rfl) q
        · rw [u11]; exact mvUp (g := fun q => mvR fr by' σ0.2.1 11 (q + by')) (fun q => a3 11 q (by decide) (by decide)) (by rw [rd 11 (by decide) (by decide)]; rfl) q
        · rw [u12]; exact mvUp (g := fun q => mvR fr by' σ0.2.1 12 (q + by')) (fun q => a3 12 q (by decide) (by decide)) (by rw [rd 12 (by decide) (by decide)]; rfl) q
        · rw [u13]; exact mvUp (g := fun q => mvR fr by' σ0.2.1 13 (q + by')) (fun q => a3 13 q (by decide) (by decide)) (rd 13 (by decide) (by decide)) q
        · rw [u14]; exact mvUp (g := fun q => mvR fr by' σ0.2.1 14 (q + by')) (fun q => a3 14 q (by decide) (by decide)) (rd 14 (by decide) (by decide)) q
        · rw [u15]; exact mvUp (g := fun q => mvR fr by' σ0.2.1 15 (q + by')) (fun q => a3 15 q (by decide) (by decide)) (rd 15 (by decide) (by decide)) q
    obtain ⟨σ', e, g⟩ := rMoveL hfr hnx h8 hL d (i + 1) f σ1 (by omega) (by omega) h'
    refine ⟨σ', ?_, g⟩
    rw [FX11_moveQuestion_9, h.1, h8, if_neg (by rw [nI_leI (by omega) (by omega)]; omega), e1, if_neg in1, if_neg in2, if_neg in1, if_neg in1, cl1, cl2, k9, step, if_neg in2', if_neg in1', if_neg in1', step, if_neg in2', if_neg in1', if_neg in1', step, if_neg in2', if_neg in1', if_neg in2', if_neg in1', if_neg in2', if_neg in1', if_neg in2', ← nI_succ, ← hσ1]
    exact e
/-- the parts after the move mean the same -/
theorem moved (hfr : fr = pn + by') (hnx : fr ≤ nx) (hn : nx ≤ 1203) (hT : okT (Vx (fun q => q < pn) fr nx) (ntM σ0)) (hB : ∀ q, Vx (fun q => q < pn) fr nx q → okB (ntM σ0 q)) (h : MvS pn by' fr (nx - fr) σ0 σ1) : okT (fun q => q < pn + (nx - fr)) (ntM σ1) ∧ (∀ q, q < pn + (nx - fr) → okB (ntM σ1 q)) ∧ ∀ q, fr ≤ q → q < nx → dnV (ntM σ1) (q - by') = dnV (ntM σ0) q := by
  obtain ⟨a1, a2, a3, a4⟩ := h
  have old : ∀ q, q < pn → ntM σ1 q = ntM σ0 q := fun q hq => by
    unfold ntM
    rw [a3 9 q (by decide) (by decide), a3 10 q (by decide) (by decide), a3 11 q (by decide) (by decide), a3 12 q (by decide) (by decide), a3 13 q (by decide) (by decide), a3 14 q (by decide) (by decide)]
    rw [if_neg (by omega), if_neg (by omega), if_neg (by omega), if_neg (by omega), if_neg (by omega), if_neg (by omega)]
  have new : ∀ q, fr ≤ q → q < nx → ntM σ1 (q - by') = ((ntM σ0 q).1, mvI fr by' (ntM σ0 q).1 1 (ntM σ0 q).2.1, mvI fr by' (ntM σ0 q).1 2 (ntM σ0 q).2.2.1, mvI fr by' (ntM σ0 q).1 3 (ntM σ0 q).2.2.2.1, (ntM σ0 q).2.2.2.2) := fun q h1 h2 => by
    unfold ntM
    rw [a3 9 _ (by decide) (by decide), a3 10 _ (by decide) (by decide), a3 11 _ (by decide) (by decide), a3 12 _ (by decide) (by decide), a3 13 _ (by decide) (by decide), a3 14 _ (by decide) (by decide)]
    rw [if_pos (by omega), if_pos (by omega), if_pos (by omega), if_pos (by omega), if_pos (by omega), if_pos (by omega), show q - by' + by' = q by omega]
    rfl
  have p15 : ∀ q, fr ≤ q → q < nx → σ1.2.1 15 (q - by') = σ0.2.1 15 q := fun q h1 h2 => by
    rw [a3 15 _ (by decide) (by decide), if_pos (by omega), show q - by' + by' = q by omega]
    rfl
  have p15o : ∀ q, q < pn → σ1.2.1 15 q = σ0.2.1 15 q := fun q hq => by
    rw [a3 15 _ (by decide) (by decide), if_neg (by omega)]
  have hsh : ∃ sh : Nat → Nat, ∀ n, (n < pn → sh n = n) ∧ (¬ n < pn → sh n = n - by') := ⟨fun n => if n < pn then n else n - by', fun n => ⟨fun z => if_pos z, fun z => if_neg z⟩⟩
  obtain ⟨sh, hsh⟩ := hsh
  have mv : ∀ (kd w : Int32) (m : Nat), m < 2000 → Vx (fun q => q < pn) fr nx m → ¬ (kd = 20 ∨ kd = 21) → (w < 3 ∨ kd = 33) → mvI fr by' kd w (nI m) = nI (sh m) := by
    intro kd w m h2 hv n1 n2
    unfold mvI
    rw [if_neg n1, if_pos n2]
    by_cases z : m < fr
    · have hm : m < pn := hv.elim id (fun y => by omega)
      rw [if_pos (nI_lt z (by omega)), (hsh m).1 hm]
    · have hf : m < nx := hv.elim (fun y => by have y : m < pn := y; omega) (fun y => y.2)
      rw [if_neg (by rw [nI_ltI (by omega) (by omega)]; exact z), nI_sub (by omega), (hsh m).2 (by omega)]
  have shW : ∀ m n, Vx (fun q => q < pn) fr nx m → m < n → fr ≤ n → sh m < n - by' ∧ sh m < pn + (nx - fr) := by
    intro m n hv hmn hn
    by_cases z : m < pn
    · rw [(hsh m).1 z]; omega
    · have hf : fr ≤ m ∧ m < nx := hv.elim (fun y => absurd y z) id
      rw [(hsh m).2 z]; omega
  have n1 : ∀ {kd : Int32}, us1 kd = true → ¬ (kd = 20 ∨ kd = 21) := fun {kd} u z => by
    rcases z with z | z <;> rw [z] at u <;> exact absurd u (by decide)
  have n2 : ∀ {kd : Int32}, us2 kd = true → ¬ (kd = 20 ∨ kd = 21) := fun {kd} u z => by
    rcases z with z | z <;> rw [z] at u <;> exact absurd u (by decide)
  have n3 : ∀ {kd : Int32}, us3 kd = true → kd = 33 := fun {kd} u => of_decide_eq_true u
  have n33 : ¬ ((33 : Int32) = 20 ∨ (33 : Int32) = 21) := by decide
  have okW : okT (fun q => q < pn + (nx - fr)) (ntM σ1) := by
    intro q hq
    have hq : q < pn + (nx - fr) := hq
    refine ⟨by omega, ?_⟩
    by_cases z : q < pn
    · rw [old q z]
      obtain ⟨-, h0, k1, k2, k3, k4⟩ := hT q (Or.inl z)
      refine ⟨h0, fun u => ?_, fun u => ?_, fun u => ?_, k4⟩
      · obtain ⟨m, hv, hm, e⟩ := k1 u
        exact ⟨m, (by omega : m < pn + (nx - fr)), hm, e⟩
      · obtain ⟨m, hv, hm, e⟩ := k2 u
        exact ⟨m, (by omega : m < pn + (nx - fr)), hm, e⟩
      · obtain ⟨m, hv, hm, e⟩ := k3 u
        exact ⟨m, (by omega : m < pn + (nx - fr)), hm, e⟩
    · obtain ⟨n, hn1⟩ : ∃ n, n = q + by' := ⟨_, rfl⟩
      have eq : q = n - by' := by omega
      have hv : Vx (fun q => q < pn) fr nx n := Or.inr ⟨by omega, by omega⟩
      obtain ⟨-, h0, k1, k2, k3, k4⟩ := hT n hv
      rw [eq, new n (by omega) (by omega)]
      refine ⟨h0, fun u => ?_, fun u => ?_, fun u => ?_, fun z => ?_⟩
      · obtain ⟨m, hv, hm, e⟩ := k1 u
        obtain ⟨s1, s2⟩ := shW m n hv hm (by omega)
        refine ⟨sh m, s2, s1, ?_⟩
        show mvI fr by' (ntM σ0 n).1 1 (ntM σ0 n).2.1 = _
        rw [e]; exact mv _ _ m (by omega) hv (n1 u) (Or.inl (by decide))
      · obtain ⟨m, hv, hm, e⟩ := k2 u
        obtain ⟨s1, s2⟩ := shW m n hv hm (by omega)
        refine ⟨sh m, s2, s1, ?_⟩
        show mvI fr by' (ntM σ0 n).1 2 (ntM σ0 n).2.2.1 = _
        rw [e]; exact mv _ _ m (by omega) hv (n2 u) (Or.inl (by decide))
      · obtain ⟨m, hv, hm, e⟩ := k3 u
        obtain ⟨s1, s2⟩ := shW m n hv hm (by omega)
        refine ⟨sh m, s2, s1, ?_⟩
        show mvI fr by' (ntM σ0 n).1 3 (ntM σ0 n).2.2.2.1 = _
        rw [e]; exact mv _ _ m (by omega) hv (by rw [n3 u]; exact n33) (Or.inr (n3 u))
      · show ∃ m, m < 8 ∧ mvI fr by' (ntM σ0 n).1 1 (ntM σ0 n).2.1 = nI m
        have z : (ntM σ0 n).1 = 21 := z
        unfold mvI
        rw [if_pos (Or.inr z)]; exact k4 z
  refine ⟨okW, fun q hq => ?_, fun q h1 h2 => ?_⟩
  · by_cases z : q < pn
    · rw [old q z]; exact hB q (Or.inl z)
    · obtain ⟨n, hn1⟩ : ∃ n, n = q + by' := ⟨_, rfl⟩
      have eq : q = n - by' := by omega
      rw [eq, new n (by omega) (by omega)]
      intro z34
      have z34 : (ntM σ0 n).1 = 34 := z34
      have := hB n (Or.inr ⟨by omega, by omega⟩) z34
      show mvI fr by' (ntM σ0 n).1 3 (ntM σ0 n).2.2.2.1 = 0 ∨ mvI fr by' (ntM σ0 n).1 3 (ntM σ0 n).2.2.2.1 = 1 ∨ mvI fr by' (ntM σ0 n).1 3 (ntM σ0 n).2.2.2.1 = 2 ∨ mvI fr by' (ntM σ0 n).1 3 (ntM σ0 n).2.2.2.1 = 3 ∨ mvI fr by' (ntM σ0 n).1 3 (ntM σ0 n).2.2.2.1 = 4
      unfold mvI
      rw [z34, if_neg (by decide), if_neg (by decide)]; exact this
  · have key := dn_shift (T := ntM σ0) (T' := ntM σ1) (P := σ0.2.1 15) (P' := σ1.2.1 15) (V := Vx (fun q => q < pn) fr nx) (W := fun q => q < pn + (nx - fr)) (sh := sh) hT okW (fun n hn => by
      show sh n < pn + (nx - fr)
      by_cases z : n < pn
      · rw [(hsh n).1 z]; omega
      · have hf : fr ≤ n ∧ n < nx := hn.elim (fun y => absurd y z) id
        rw [(hsh n).2 z]; omega) (fun n hn => by
      obtain ⟨h2000, h0, k1, k2, k3, k4⟩ := hT n hn
      by_cases z : n < pn
      · rw [(hsh n).1 z, old n z, p15o n z]
        refine ⟨rfl, rfl, rfl, fun _ => rfl, fun _ => rfl, fun u => ?_, fun u => ?_, fun u => ?_⟩
        · obtain ⟨m, hv, hm, e⟩ := k1 u
          rw [e, nI_clamp (by omega), (hsh m).1 (by omega)]
        · obtain ⟨m, hv, hm, e⟩ := k2 u
          rw [e, nI_clamp (by omega), (hsh m).1 (by omega)]
        · obtain ⟨m, hv, hm, e⟩ := k3 u
          rw [e, nI_clamp (by omega), (hsh m).1 (by omega)]
      · have hf : fr ≤ n ∧ n < nx := hn.elim (fun y => absurd y z) id
        rw [(hsh n).2 z, new n hf.1 hf.2, p15 n hf.1 hf.2]
        have lt : ∀ m, Vx (fun q => q < pn) fr nx m → m < n → sh m < 2000 := fun m hv hm => by
          have := (shW m n hv hm hf.1).1; omega
        refine ⟨rfl, rfl, rfl, fun y => ?_, fun y => ?_, fun u => ?_, fun u => ?_, fun u => ?_⟩
        · show mvI fr by' (ntM σ0 n).1 1 (ntM σ0 n).2.1 = _
          unfold mvI; rw [if_pos y]
        · show mvI fr by' (ntM σ0 n).1 3 (ntM σ0 n).2.2.2.1 = _
          unfold mvI
          rcases y with y | y <;> rw [y, if_neg (by decide), if_neg (by decide)]
        · obtain ⟨m, hv, hm, e⟩ := k1 u
          show (mvI fr by' (ntM σ0 n).1 1 (ntM σ0 n).2.1).toNatClampNeg = _
          rw [e, mv _ _ m (by omega) hv (n1 u) (Or.inl (by decide)), nI_clamp (by have := lt m hv hm; omega), nI_clamp (by omega)]
        · obtain ⟨m, hv, hm, e⟩ := k2 u
          show (mvI fr by' (ntM σ0 n).1 2 (ntM σ0 n).2.2.1).toNatClampNeg = _
          rw [e, mv _ _ m (by omega) hv (n2 u) (Or.inl (by decide)), nI_clamp (by have := lt m hv hm; omega), nI_clamp (by omega)]
        · obtain ⟨m, hv, hm, e⟩ := k3 u
          show (mvI fr by' (ntM σ0 n).1 3 (ntM σ0 n).2.2.2.1).toNatClampNeg = _
          rw [e, mv _ _ m (by omega) hv (by rw [n3 u]; exact n33) (Or.inr (n3 u)), nI_clamp (by have := lt m hv hm; omega), nI_clamp (by omega)]) q (Or.inr ⟨h1, h2⟩)
    have := key.1
    rw [(hsh q).2 (by omega)] at this
    exact this
end MV
