-- what the reference sees of a token
def vN (m : Nat) (b : Nat → Nat) : Nat → Nat
  | 0 => 0
  | n+1 => vN m b n * m + b n
theorem vN_lt {m : Nat} {b : Nat → Nat} : ∀ n, (∀ i, i < n → b i < m) → vN m b n < m ^ n
  | 0, _ => by simp [vN]
  | n+1, h => by
    have ih := vN_lt n (fun i hi => h i (by omega))
    have hb := h n (by omega)
    rw [vN, Nat.pow_succ]
    calc vN m b n * m + b n < vN m b n * m + m := by omega
      _ = (vN m b n + 1) * m := by rw [Nat.add_mul, Nat.one_mul]
      _ ≤ m ^ n * m := Nat.mul_le_mul_right m ih
theorem vN_lN {m : Nat} {b : Nat → Nat} {g : Nat → Int64} : ∀ n, (∀ i, i < n → g i = lN (b i)) → vV (lN m) g n = lN (vN m b n)
  | 0, _ => rfl
  | n+1, h => by rw [vV, vN, vN_lN n (fun i hi => h i (by omega)), h n (by omega), lN_mul, lN_add]
theorem lN_inj {a b : Nat} (ha : a < 2 ^ 64) (hb : b < 2 ^ 64) (h : lN a = lN b) : a = b := by
  have h1 : (BitVec.ofNat 64 a).toNat = (BitVec.ofNat 64 b).toNat := congrArg (fun x : Int64 => x.toBitVec.toNat) h
  rw [BitVec.toNat_ofNat, BitVec.toNat_ofNat] at h1
  omega
theorem vN_inj256 {b c : Nat → Nat} : ∀ n k, (∀ i, i < n → 1 ≤ b i ∧ b i < 256) → (∀ i, i < k → 1 ≤ c i ∧ c i < 256) → vN 256 b n = vN 256 c k → n = k ∧ ∀ i, i < n → b i = c i
  | 0, 0, _, _, _ => ⟨rfl, fun i hi => by omega⟩
  | 0, k+1, _, h2, h => by
    have := h2 k (by omega)
    rw [vN, vN] at h
    omega
  | n+1, 0, h1, _, h => by
    have := h1 n (by omega)
    rw [vN, vN] at h
    omega
  | n+1, k+1, h1, h2, h => by
    have a1 := h1 n (by omega)
    have a2 := h2 k (by omega)
    rw [vN, vN] at h
    obtain ⟨e1, e2⟩ := vN_inj256 n k (fun i hi => h1 i (by omega)) (fun i hi => h2 i (by omega)) (by omega)
    subst e1
    refine ⟨rfl, fun i hi => ?_⟩
    by_cases hin : i = n
    · subst hin; omega
    · exact e2 i (by omega)
theorem vN_inj37 {b c : Nat → Nat} : ∀ n k, (∀ i, i < n → 1 ≤ b i ∧ b i < 37) → (∀ i, i < k → 1 ≤ c i ∧ c i < 37) → vN 37 b n = vN 37 c k → n = k ∧ ∀ i, i < n → b i = c i
  | 0, 0, _, _, _ => ⟨rfl, fun i hi => by omega⟩
  | 0, k+1, _, h2, h => by
    have := h2 k (by omega)
    rw [vN, vN] at h
    omega
  | n+1, 0, h1, _, h => by
    have := h1 n (by omega)
    rw [vN, vN] at h
    omega
  | n+1, k+1, h1, h2, h => by
    have a1 := h1 n (by omega)
    have a2 := h2 k (by omega)
    rw [vN, vN] at h
    obtain ⟨e1, e2⟩ := vN_inj37 n k (fun i hi => h1 i (by omega)) (fun i hi => h2 i (by omega)) (by omega)
    subst e1
    refine ⟨rfl, fun i hi => ?_⟩
    by_cases hin : i = n
    · subst hin; omega
    · exact e2 i (by omega)

theorem pow8 {n : Nat} (h : n ≤ 8) : (256 : Nat) ^ n ≤ 2 ^ 64 := Nat.le_trans (Nat.pow_le_pow_right (by decide) h) (by decide)
theorem pow37 {n : Nat} (h : n ≤ 8) : (37 : Nat) ^ n ≤ 2 ^ 64 := Nat.le_trans (Nat.pow_le_pow_right (by decide) h) (by decide)
theorem pow10 {n : Nat} (h : n ≤ 6) : (10 : Nat) ^ n ≤ 1000000 := Nat.le_trans (Nat.pow_le_pow_right (by decide) h) (by decide)
/-- a name's two numbers -/
def dg (b : Nat) : Nat := if b ≤ 57 then b - 47 else b - 86
def okC (b : Nat) : Prop := (48 ≤ b ∧ b ≤ 57) ∨ (97 ≤ b ∧ b ≤ 122)
theorem dg_in {b : Nat} (h : okC b) : 1 ≤ dg b ∧ dg b < 37 := by
  unfold dg okC at *
  split <;> omega
theorem dg_inj {b c : Nat} (h : okC b) (h2 : okC c) (e : dg b = dg c) : b = c := by
  unfold dg okC at *
  split at e <;> split at e <;> omega
def TX (w h : Int64) : Prop := ∃ (n : Nat) (b : Nat → Nat), n ≤ 8 ∧ (∀ i, i < n → okC (b i)) ∧ w = lN (vN 256 b n) ∧ h = lN (vN 37 (fun i => dg (b i)) n)
theorem vN_same {m : Nat} {b c : Nat → Nat} : ∀ n, (∀ i, i < n → b i = c i) → vN m b n = vN m c n
  | 0, _ => rfl
  | n+1, h => by rw [vN, vN, vN_same n (fun i hi => h i (by omega)), h n (by omega)]
theorem TX_inj {w h w' h' : Int64} (a : TX w h) (a' : TX w' h') : w = w' ↔ h = h' := by
  obtain ⟨n, b, h1, h2, rfl, rfl⟩ := a
  obtain ⟨n', b', h1', h2', rfl, rfl⟩ := a'
  have l1 : vN 256 b n < 2 ^ 64 := Nat.lt_of_lt_of_le (vN_lt n (fun i hi => by have := h2 i hi; unfold okC at this; omega)) (pow8 h1)
  have l2 : vN 256 b' n' < 2 ^ 64 := Nat.lt_of_lt_of_le (vN_lt n' (fun i hi => by have := h2' i hi; unfold okC at this; omega)) (pow8 h1')
  have k1 : vN 37 (fun i => dg (b i)) n < 2 ^ 64 := Nat.lt_of_lt_of_le (vN_lt n (fun i hi => (dg_in (h2 i hi)).2)) (pow37 h1)
  have k2 : vN 37 (fun i => dg (b' i)) n' < 2 ^ 64 := Nat.lt_of_lt_of_le (vN_lt n' (fun i hi => (dg_in (h2' i hi)).2)) (pow37 h1')
  constructor
  · intro e
    obtain ⟨e1, e2⟩ := vN_inj256 n n' (fun i hi => by have := h2 i hi; unfold okC at this; omega) (fun i hi => by have := h2' i hi; unfold okC at this; omega) (lN_inj l1 l2 e)
    subst e1
    rw [vN_same n (fun i hi => show dg (b i) = dg (b' i) by rw [e2 i hi])]
  · intro e
    obtain ⟨e1, e2⟩ := vN_inj37 n n' (fun i hi => dg_in (h2 i hi)) (fun i hi => dg_in (h2' i hi)) (lN_inj k1 k2 e)
    subst e1
    rw [vN_same n (fun i hi => dg_inj (h2 i hi) (h2' i hi) (e2 i hi))]
/-- the keywords as the class has packed them -/
def kwW (j : Nat) : Nat := (sTab 0).getD j 0
def kwB (j i : Nat) : Nat := (sByt (kwW j) i).toNatClampNeg
def kwL (j : Nat) : Nat := SLEN.getD (kwW j) 0
def kwOK (kw : Nat → Int64) : Prop := ∀ j, j < 30 → kw j = lN (vN 256 (kwB j) (kwL j))
theorem kwPack {kw : Nat → Int64} (h : FX9_pack = some kw) : kwOK kw := by
  have e : FX9_pack.map (fun kw => (List.range 30).map kw) = some ((List.range 30).map (fun j => lN (vN 256 (kwB j) (kwL j)))) := by decide +kernel
  rw [h] at e
  have e2 : (List.range 30).map kw = (List.range 30).map (fun j => lN (vN 256 (kwB j) (kwL j))) := Option.some.inj e
  intro j hj
  have := congrArg (fun l : List Int64 => l[j]?) e2
  simpa [hj] using this
theorem kwFacts : ∀ j, j < 30 → kwW j < 53 ∧ 1 ≤ kwL j ∧ kwL j ≤ 8 ∧ ∀ i, i < kwL j → sByt (kwW j) i = nI (kwB j i) ∧ 97 ≤ kwB j i ∧ kwB j i ≤ 122 := by decide +kernel
theorem kwDiff : ∀ j, j < 30 → ∀ i, i < 30 → vN 256 (kwB j) (kwL j) = vN 256 (kwB i) (kwL i) → j = i := by decide +kernel
theorem kwLt {j : Nat} (hj : j < 30) : vN 256 (kwB j) (kwL j) < 2 ^ 64 := by
  obtain ⟨-, -, h2, h3⟩ := kwFacts j hj
  exact Nat.lt_of_lt_of_le (vN_lt _ (fun i hi => by have := (h3 i hi).2; omega)) (pow8 h2)
theorem kwF_in {kw : Nat → Int64} {w : Int64} : ∀ (n j : Nat), (kwF kw w n j = 51 ∧ ∀ i, j ≤ i → i < j + n → kw i ≠ w) ∨ ∃ i, j ≤ i ∧ i < j + n ∧ kw i = w ∧ kwF kw w n j = nI i
  | 0, j => Or.inl ⟨rfl, fun i h1 h2 => by omega⟩
  | n+1, j => by
    rw [kwF]
    by_cases c : kw j = w
    · rw [if_pos c]; exact Or.inr ⟨j, by omega, by omega, c, rfl⟩
    · rw [if_neg c]
      rcases kwF_in (kw := kw) (w := w) n (j + 1) with ⟨h1, h2⟩ | ⟨i, h1, h2, h3, h4⟩
      · refine Or.inl ⟨h1, fun i h3 h4 => ?_⟩
        by_cases e : i = j
        · rw [e]; exact c
        · exact h2 i (by omega) (by omega)
      · exact Or.inr ⟨i, by omega, by omega, h3, h4⟩
theorem kwS_in {kw : Nat → Int64} {w : Int64} : (kwS kw w = 51 ∧ ∀ i, i < 30 → kw i ≠ w) ∨ ∃ i, i < 30 ∧ kw i = w ∧ kwS kw w = nI i := by
  rcases kwF_in (kw := kw) (w := w) 30 0 with ⟨h1, h2⟩ | ⟨i, h1, h2, h3, h4⟩
  · exact Or.inl ⟨h1, fun i hi => h2 i (by omega) (by omega)⟩
  · exact Or.inr ⟨i, by omega, h3, h4⟩
theorem kwS_eq {kw : Nat → Int64} (hkw : kwOK kw) {w : Int64} {j : Nat} (hj : j < 30) : kwS kw w = nI j ↔ w = kw j := by
  constructor
  · intro h
    rcases kwS_in (kw := kw) (w := w) with ⟨h1, h2⟩ | ⟨i, h1, h2, h3⟩
    · rw [h1, show (51 : Int32) = nI 51 from rfl, nI_eq (by omega) (by omega)] at h; omega
    · rw [h3, nI_eq (by omega) (by omega)] at h
      rw [← h, h2]
  · intro h
    rcases kwS_in (kw := kw) (w := w) with ⟨h1, h2⟩ | ⟨i, h1, h2, h3⟩
    · exact absurd h.symm (h2 j hj)
    · rw [h3]
      have : kw i = kw j := h2.trans h
      rw [hkw i h1, hkw j hj] at this
      rw [kwDiff i h1 j hj (lN_inj (kwLt h1) (kwLt hj) this)]
def tx (bt : Nat → Int32) (p w : Nat) : Nat → Bool
  | 0 => true
  | i+1 => tx bt p w i && decide (bt (p + i) = sByt w i)
theorem tx_all {bt : Nat → Int32} {p w : Nat} : ∀ n, tx bt p w n = true ↔ ∀ i, i < n → bt (p + i) = sByt w i
  | 0 => ⟨fun _ i hi => by omega, fun _ => rfl⟩
  | n+1 => by
    rw [tx, Bool.and_eq_true, tx_all n, decide_eq_true_eq]
    constructor
    · intro h i hi
      by_cases e : i = n
      · rw [e]; exact h.2
      · exact h.1 i (by omega)
    · intro h
      exact ⟨fun i hi => h i (by omega), h n (by omega)⟩
theorem tx_stop {bt : Nat → Int32} {p w i n : Nat} (h : tx bt p w i = false) (hn : i ≤ n) : tx bt p w n = false := by
  cases e : tx bt p w n with
  | false => rfl
  | true =>
    have := (tx_all n).mp e
    rw [(tx_all i).mpr (fun k hk => this k (by omega))] at h
    cases h
theorem chOf : ∀ w, w < 53 → ∀ i, i < SLEN.getD w 0 → FJ0_charAt_5068e w (nI i) = some (sByt w i) := by decide +kernel
theorem lenOf : ∀ w, w < 53 → FJ0_length_8abf5 w = some (nI (SLEN.getD w 0)) := by decide +kernel
theorem lenLt : ∀ w, w < 53 → 1 ≤ SLEN.getD w 0 ∧ SLEN.getD w 0 ≤ 200 := by decide +kernel
section TF
variable {σ : MS} {L len k p e : Nat} {kw : Nat → Int64} {bt : Nat → Int32}
theorem rIs49 {w : Nat} (hw : w < 53) (hk : k < 1801) (h5 : σ.2.1 5 k = nI p) (hp : p + SLEN.getD w 0 ≤ 1800) : ∀ (d i fuel : Nat), i + d = SLEN.getD w 0 → d < fuel → FX11_is_49 L w fuel (nI k) (bI (tx (σ.2.1 1) p w i)) (nI i) σ = some (bI (tx (σ.2.1 1) p w (SLEN.getD w 0)), σ) := by
  intro d
  have hl := lenLt w hw
  induction d with
  | zero =>
    intro i fuel hi hf
    obtain ⟨q, rfl⟩ : ∃ z, fuel = z + 1 := ⟨fuel - 1, by omega⟩
    rw [FX11_is_49, lenOf w hw]
    show (if nI (SLEN.getD w 0) ≤ nI i then _ else _) = _
    rw [if_pos (nI_le (by omega) (by omega)), if_neg bI_nn, show i = SLEN.getD w 0 by omega]
  | succ d ih =>
    intro i fuel hi hf
    obtain ⟨q, rfl⟩ : ∃ z, fuel = z + 1 := ⟨fuel - 1, by omega⟩
    have ih := ih (i + 1) q (by omega) (by omega)
    rw [FX11_is_49, lenOf w hw]
    show (if nI (SLEN.getD w 0) ≤ nI i then _ else _) = _
    rw [if_neg (fun e => by rw [nI_leI (by omega) (by omega)] at e; omega)]
    cases c : tx (σ.2.1 1) p w i with
    | false => rw [if_pos bI_f, if_neg bI_nn, tx_stop c (by omega)]
    | true =>
      rw [if_neg (show ¬ bI true = 0 by decide), if_neg (nI_in hk (by decide)), nI_clamp (by omega), h5, nI_add, if_neg (nI_in (show p + i < 1800 by omega) (by decide)), chOf w hw i (by omega)]
      show (if σ.2.1 1 (nI (p + i)).toNatClampNeg = sByt w i then _ else _) = _
      rw [nI_clamp (by omega), ← nI_succ]
      rw [tx, c, Bool.true_and] at ih
      by_cases c2 : σ.2.1 1 (p + i) = sByt w i
      · rw [if_pos c2]; rw [decide_eq_true c2] at ih; exact ih
      · rw [if_neg c2]; rw [decide_eq_false c2] at ih; exact ih
theorem rIsE {w : Nat} (hw : w < 53) (hk : k < 1801) (h5 : σ.2.1 5 k = nI p) (h6 : σ.2.1 6 k = nI e) (hpe : p ≤ e) (he : e ≤ 1800) (hL : 1000 ≤ L) : FX11_is L (nI k) w σ = some (bI ((decide (σ.2.1 4 k = 1) || decide (σ.2.1 4 k = 3)) && (decide (e - p = SLEN.getD w 0) && tx (σ.2.1 1) p w (SLEN.getD w 0))), σ) := by
  have hl := lenLt w hw
  obtain ⟨q, hq⟩ : ∃ z, L = z + 1 := ⟨L - 1, by omega⟩
  have no : ∀ f, FX11_is_49 L w (f + 1) (nI k) 0 0 σ = some (0, σ) := by
    intro f
    rw [FX11_is_49, lenOf w hw]
    show (if nI (SLEN.getD w 0) ≤ 0 then _ else _) = _
    split
    · rw [if_neg (by decide)]
    · rw [if_pos rfl, if_neg (by decide)]
  have yes : FX11_is_20 L w (nI k) σ = some (bI (decide (e - p = SLEN.getD w 0) && tx (σ.2.1 1) p w (SLEN.getD w 0)), σ) := by
    rw [FX11_is_20, if_neg (nI_in hk (by decide)), if_neg (nI_in hk (by decide)), lenOf w hw]
    show (if (σ.2.1 6 (nI k).toNatClampNeg - σ.2.1 5 (nI k).toNatClampNeg) = nI (SLEN.getD w 0) then _ else _) = _
    rw [nI_clamp (by omega), h5, h6, nI_sub hpe]
    by_cases c : e - p = SLEN.getD w 0
    · rw [if_pos (by rw [c]), decide_eq_true c, Bool.true_and]
      exact rIs49 hw hk h5 (by omega) (SLEN.getD w 0) 0 L (by omega) (by omega)
    · rw [if_neg (fun h => c (by rw [nI_eq (by omega) (by omega)] at h; exact h)), decide_eq_false c, Bool.false_and, hq]
      rw [hq] at no
      exact no q
  rw [FX11_is, if_neg (by omega), if_neg (nI_in hk (by decide)), nI_clamp (by omega)]
  by_cases c1 : σ.2.1 4 k = 1
  · rw [if_pos c1, yes, decide_eq_true c1, Bool.true_or, Bool.true_and]
  · rw [if_neg c1, if_neg (nI_i hk (by decide))]
    by_cases c3 : σ.2.1 4 k = 3
    · rw [if_pos c3, yes, decide_eq_true c3, Bool.or_true, Bool.true_and]
    · rw [if_neg c3, decide_eq_false c1, decide_eq_false c3, hq]
      rw [hq] at no
      exact no q
/-- letters and digits of a word -/
theorem wch (hok : okBt bt len) {j : Nat} (h : cW bt len j = true) : j < len ∧ ∃ b, bt j = nI b ∧ okC b := by
  have hj : j < len := by
    by_cases hj : j < len
    · exact hj
    · rw [cW_out j (by omega)] at h; cases h
  refine ⟨hj, ?_⟩
  obtain ⟨b, hb, e⟩ := hok.2 j hj
  refine ⟨b, e, ?_⟩
  rw [cW, bAt_in hj, e] at h
  simp only [isL, isD, Bool.or_eq_true, Bool.and_eq_true, decide_eq_true_eq] at h
  have a1 : nI b < 97 ↔ b < 97 := by rw [show (97 : Int32) = nI 97 from rfl, nI_ltI (by omega) (by omega)]
  have a2 : 122 < nI b ↔ 122 < b := by rw [show (122 : Int32) = nI 122 from rfl, nI_ltI (by omega) (by omega)]
  have a3 : nI b < 48 ↔ b < 48 := by rw [show (48 : Int32) = nI 48 from rfl, nI_ltI (by omega) (by omega)]
  have a4 : 57 < nI b ↔ 57 < b := by rw [show (57 : Int32) = nI 57 from rfl, nI_ltI (by omega) (by omega)]
  rw [a1, a2, a3, a4] at h
  unfold okC
  omega
theorem dch (hok : okBt bt len) {j : Nat} (h : cD bt len j = true) : j < len ∧ ∃ b, bt j = nI b ∧ 48 ≤ b ∧ b ≤ 57 := by
  have hj : j < len := by
    by_cases hj : j < len
    · exact hj
    · rw [cD_out j (by omega)] at h; cases h
  refine ⟨hj, ?_⟩
  obtain ⟨b, hb, e⟩ := hok.2 j hj
  refine ⟨b, e, ?_⟩
  rw [cD, bAt_in hj, e] at h
  simp only [isD, Bool.and_eq_true, decide_eq_true_eq] at h
  have a3 : nI b < 48 ↔ b < 48 := by rw [show (48 : Int32) = nI 48 from rfl, nI_ltI (by omega) (by omega)]
  have a4 : 57 < nI b ↔ 57 < b := by rw [show (57 : Int32) = nI 57 from rfl, nI_ltI (by omega) (by omega)]
  rw [a3, a4] at h
  omega
/-- a word's text -/
theorem wText (hok : okBt bt len) (hp : p ≤ len) : ∃ b : Nat → Nat, (∀ i, i < run (cW bt len) len p - p → bt (p + i) = nI (b i) ∧ okC (b i)) ∧ wdV bt p (run (cW bt len) len p - p) = lN (vN 256 b (run (cW bt len) len p - p)) := by
  obtain ⟨h1, h2, -, h4⟩ := run_ge (c := cW bt len) cW_out (len - p) p (by omega)
  refine ⟨fun i => (bt (p + i)).toNatClampNeg, fun i hi => ?_, ?_⟩
  · obtain ⟨-, b, e1, e2⟩ := wch hok (h4 (p + i) (by omega) (by omega))
    have : (bt (p + i)).toNatClampNeg = b := by rw [e1, nI_clamp (by unfold okC at e2; omega)]
    show bt (p + i) = nI (bt (p + i)).toNatClampNeg ∧ okC (bt (p + i)).toNatClampNeg
    rw [this]; exact ⟨e1, e2⟩
  · refine vN_lN (m := 256) _ (fun i hi => ?_)
    obtain ⟨-, b, e1, e2⟩ := wch hok (h4 (p + i) (by omega) (by omega))
    have : (bt (p + i)).toNatClampNeg = b := by rw [e1, nI_clamp (by unfold okC at e2; omega)]
    show (bt (p + i)).toInt64 = lN (bt (p + i)).toNatClampNeg
    rw [this, e1, nI_l (by unfold okC at e2; omega)]
theorem nIne (a c : Nat) (h : a ≠ c) (ha : a < 2 ^ 31) (hc : c < 2 ^ 31) : nI a ≠ nI c := fun e => h ((nI_eq ha hc).mp e)
theorem s1_mem (x : Int32) : (x = 37 ∧ s1 x = 43) ∨ (x = 40 ∧ s1 x = 30) ∨ (x = 41 ∧ s1 x = 31) ∨ (x = 42 ∧ s1 x = 41) ∨ (x = 43 ∧ s1 x = 39) ∨ (x = 45 ∧ s1 x = 40) ∨ (x = 47 ∧ s1 x = 42) ∨ (x = 58 ∧ s1 x = 37) ∨ (x = 59 ∧ s1 x = 36) ∨ (x = 60 ∧ s1 x = 46) ∨ (x = 61 ∧ s1 x = 44) ∨ (x = 62 ∧ s1 x = 47) ∨ (x = 91 ∧ s1 x = 34) ∨ (x = 93 ∧ s1 x = 35) ∨ (x = 123 ∧ s1 x = 32) ∨ (x = 125 ∧ s1 x = 33) ∨ s1 x = 54 := by
  by_cases h37 : x = 37
  · exact Or.inl ⟨h37, by rw [h37]; decide⟩
  by_cases h40 : x = 40
  · exact Or.inr (Or.inl ⟨h40, by rw [h40]; decide⟩)
  by_cases h41 : x = 41
  · exact Or.inr (Or.inr (Or.inl ⟨h41, by rw [h41]; decide⟩))
  by_cases h42 : x = 42
  · exact Or.inr (Or.inr (Or.inr (Or.inl ⟨h42, by rw [h42]; decide⟩)))
  by_cases h43 : x = 43
  · exact Or.inr (Or.inr (Or.inr (Or.inr (Or.inl ⟨h43, by rw [h43]; decide⟩))))
  by_cases h45 : x = 45
  · exact Or.inr (Or.inr (Or.inr (Or.inr (Or.inr (Or.inl ⟨h45, by rw [h45]; decide⟩)))))
  by_cases h47 : x = 47
  · exact Or.inr (Or.inr (Or.inr (Or.inr (Or.inr (Or.inr (Or.inl ⟨h47, by rw [h47]; decide⟩))))))
  by_cases h58 : x = 58
  · exact Or.inr (Or.inr (Or.inr (Or.inr (Or.inr (Or.inr (Or.inr (Or.inl ⟨h58, by rw [h58]; decide⟩)))))))
  by_cases h59 : x = 59
  · exact Or.inr (Or.inr (Or.inr (Or.inr (Or.inr (Or.inr (Or.inr (Or.inr (Or.inl ⟨h59, by rw [h59]; decide⟩))))))))
  by_cases h60 : x = 60
  · exact Or.inr (Or.inr (Or.inr (Or.inr (Or.inr (Or.inr (Or.inr (Or.inr (Or.inr (Or.inl ⟨h60, by rw [h60]; decide⟩)))))))))
  by_cases h61 : x = 61
  · exact Or.inr (Or.inr (Or.inr (Or.inr (Or.inr (Or.inr (Or.inr (Or.inr (Or.inr (Or.inr (Or.inl ⟨h61, by rw [h61]; decide⟩))))))))))
  by_cases h62 : x = 62
  · exact Or.inr (Or.inr (Or.inr (Or.inr (Or.inr (Or.inr (Or.inr (Or.inr (Or.inr (Or.inr (Or.inr (Or.inl ⟨h62, by rw [h62]; decide⟩)))))))))))
  by_cases h91 : x = 91
  · exact Or.inr (Or.inr (Or.inr (Or.inr (Or.inr (Or.inr (Or.inr (Or.inr (Or.inr (Or.inr (Or.inr (Or.inr (Or.inl ⟨h91, by rw [h91]; decide⟩))))))))))))
  by_cases h93 : x = 93
  · exact Or.inr (Or.inr (Or.inr (Or.inr (Or.inr (Or.inr (Or.inr (Or.inr (Or.inr (Or.inr (Or.inr (Or.inr (Or.inr (Or.inl ⟨h93, by rw [h93]; decide⟩)))))))))))))
  by_cases h123 : x = 123
  · exact Or.inr (Or.inr (Or.inr (Or.inr (Or.inr (Or.inr (Or.inr (Or.inr (Or.inr (Or.inr (Or.inr (Or.inr (Or.inr (Or.inr (Or.inl ⟨h123, by rw [h123]; decide⟩))))))))))))))
  by_cases h125 : x = 125
  · exact Or.inr (Or.inr (Or.inr (Or.inr (Or.inr (Or.inr (Or.inr (Or.inr (Or.inr (Or.inr (Or.inr (Or.inr (Or.inr (Or.inr (Or.inr (Or.inl ⟨h125, by rw [h125]; decide⟩)))))))))))))))
  exact Or.inr (Or.inr (Or.inr (Or.inr (Or.inr (Or.inr (Or.inr (Or.inr (Or.inr (Or.inr (Or.inr (Or.inr (Or.inr (Or.inr (Or.inr (Or.inr (by rw [s1, if_neg h37, if_neg h40, if_neg h41, if_neg h42, if_neg h43, if_neg h45, if_neg h47, if_neg h58, if_neg h59, if_neg h60, if_neg h61, if_neg h62, if_neg h91, if_neg h93, if_neg h123, if_neg h125]))))))))))))))))
theorem s2_mem (x y : Int32) : (x = 58 ∧ y = 61 ∧ s2 x y = 38) ∨ (x = 60 ∧ y = 61 ∧ s2 x y = 48) ∨ (x = 62 ∧ y = 61 ∧ s2 x y = 49) ∨ (x = 60 ∧ y = 62 ∧ s2 x y = 45) ∨ (x = 46 ∧ y = 46 ∧ s2 x y = 50) ∨ s2 x y = 54 := by
  by_cases h1 : y = 61
  · by_cases a : x = 58
    · exact Or.inl ⟨a, h1, by rw [a, h1]; decide⟩
    by_cases b : x = 60
    · exact Or.inr (Or.inl ⟨b, h1, by rw [b, h1]; decide⟩)
    by_cases c : x = 62
    · exact Or.inr (Or.inr (Or.inl ⟨c, h1, by rw [c, h1]; decide⟩))
    exact Or.inr (Or.inr (Or.inr (Or.inr (Or.inr (by rw [s2, if_pos h1, if_neg a, if_neg b, if_neg c])))))
  · by_cases a : x = 60 ∧ y = 62
    · exact Or.inr (Or.inr (Or.inr (Or.inl ⟨a.1, a.2, by rw [a.1, a.2]; decide⟩)))
    by_cases b : x = 46 ∧ y = 46
    · exact Or.inr (Or.inr (Or.inr (Or.inr (Or.inl ⟨b.1, b.2, by rw [b.1, b.2]; decide⟩))))
    exact Or.inr (Or.inr (Or.inr (Or.inr (Or.inr (by rw [s2, if_neg h1, if_neg a, if_neg b])))))
theorem s1_in {x : Int32} : 30 ≤ (s1 x).toInt ∧ (s1 x).toInt ≤ 54 := by
  rcases s1_mem x with ⟨-, h⟩ | ⟨-, h⟩ | ⟨-, h⟩ | ⟨-, h⟩ | ⟨-, h⟩ | ⟨-, h⟩ | ⟨-, h⟩ | ⟨-, h⟩ | ⟨-, h⟩ | ⟨-, h⟩ | ⟨-, h⟩ | ⟨-, h⟩ | ⟨-, h⟩ | ⟨-, h⟩ | ⟨-, h⟩ | ⟨-, h⟩ | h <;> rw [h] <;> decide
theorem s2_in {x y : Int32} : 38 ≤ (s2 x y).toInt ∧ (s2 x y).toInt ≤ 54 := by
  rcases s2_mem x y with ⟨-, -, h⟩ | ⟨-, -, h⟩ | ⟨-, -, h⟩ | ⟨-, -, h⟩ | ⟨-, -, h⟩ | h <;> rw [h] <;> decide
theorem s1_no2 {x : Int32} : s1 x ≠ 38 ∧ s1 x ≠ 45 ∧ s1 x ≠ 48 ∧ s1 x ≠ 49 ∧ s1 x ≠ 50 := by
  rcases s1_mem x with ⟨-, h⟩ | ⟨-, h⟩ | ⟨-, h⟩ | ⟨-, h⟩ | ⟨-, h⟩ | ⟨-, h⟩ | ⟨-, h⟩ | ⟨-, h⟩ | ⟨-, h⟩ | ⟨-, h⟩ | ⟨-, h⟩ | ⟨-, h⟩ | ⟨-, h⟩ | ⟨-, h⟩ | ⟨-, h⟩ | ⟨-, h⟩ | h <;> rw [h] <;> decide
theorem s2_val {x y : Int32} (h9 : s2 x y ≠ 54) : s2 x y = 38 ∨ s2 x y = 45 ∨ s2 x y = 48 ∨ s2 x y = 49 ∨ s2 x y = 50 := by
  rcases s2_mem x y with ⟨-, -, h⟩ | ⟨-, -, h⟩ | ⟨-, -, h⟩ | ⟨-, -, h⟩ | ⟨-, -, h⟩ | h
  · exact Or.inl h
  · exact Or.inr (Or.inr (Or.inl h))
  · exact Or.inr (Or.inr (Or.inr (Or.inl h)))
  · exact Or.inr (Or.inl h)
  · exact Or.inr (Or.inr (Or.inr (Or.inr h)))
  · exact absurd h h9
theorem s1_51 {x : Int32} : s1 x ≠ 51 ∧ s1 x ≠ 52 ∧ s1 x ≠ 53 := by
  rcases s1_mem x with ⟨-, h⟩ | ⟨-, h⟩ | ⟨-, h⟩ | ⟨-, h⟩ | ⟨-, h⟩ | ⟨-, h⟩ | ⟨-, h⟩ | ⟨-, h⟩ | ⟨-, h⟩ | ⟨-, h⟩ | ⟨-, h⟩ | ⟨-, h⟩ | ⟨-, h⟩ | ⟨-, h⟩ | ⟨-, h⟩ | ⟨-, h⟩ | h <;> rw [h] <;> decide
theorem kwS_ge {w : Int64} {c : Nat} (h1 : 30 ≤ c) (h2 : c < 51) : kwS kw w ≠ nI c := by
  rcases kwS_in (kw := kw) (w := w) with ⟨h, -⟩ | ⟨i, hi, -, h⟩
  · rw [h, show (51 : Int32) = nI 51 from rfl]; intro e; rw [nI_eq (by omega) (by omega)] at e; omega
  · rw [h]; intro e; rw [nI_eq (by omega) (by omega)] at e; omega
/-- a keyword is seen where the class sees it -/
theorem seeK (hkw : kwOK kw) (hok : okBt bt len) (hp : p ≤ len) {j : Nat} (hj : j < 30) : ((decide (kC bt len p = 1) || decide (kC bt len p = 3)) && (decide (eC bt len p - p = kwL j) && tx bt p (kwW j) (kwL j))) = decide (sC kw bt len p = nI j) := by
  obtain ⟨hw, hl1, hl2, hb⟩ := kwFacts j hj
  have jl : (nI j).toInt = j := nI_toInt (by omega)
  have nx : p < len → isL (bAt bt len p) = false → tx bt p (kwW j) (kwL j) = false := by
    intro hp2 hn
    cases c : tx bt p (kwW j) (kwL j) with
    | false => rfl
    | true =>
      exfalso
      have a := (tx_all _).mp c 0 (by omega)
      obtain ⟨b1, b2, b3⟩ := hb 0 (by omega)
      rw [b1, Nat.add_zero] at a
      rw [bAt_in hp2, a] at hn
      have q : isL (nI (kwB j 0)) = true := by
        simp only [isL, Bool.and_eq_true, decide_eq_true_eq]
        rw [show (97 : Int32) = nI 97 from rfl, show (122 : Int32) = nI 122 from rfl, nI_ltI (by omega) (by omega), nI_ltI (by omega) (by omega)]
        omega
      rw [q] at hn
      cases hn
  unfold kC eC sC
  by_cases c0 : bAt bt len p = -1
  · rw [if_pos c0, if_pos c0, if_pos c0]
    rw [decide_eq_false (show ¬ (53 : Int32) = nI j from nIne 53 j (by omega) (by decide) (by omega))]
    rfl
  have hp2 : p < len := by
    by_cases hp2 : p < len
    · exact hp2
    · exact absurd (bAt_out (by omega)) c0
  rw [if_neg c0, if_neg c0, if_neg c0]
  by_cases c1 : isL (bAt bt len p) = true
  · rw [if_pos c1, if_pos c1, if_pos c1]
    by_cases c8 : 8 < run (cW bt len) len p - p
    · rw [if_pos c8, if_pos c8, decide_eq_false (show ¬ (54 : Int32) = nI j from nIne 54 j (by omega) (by decide) (by omega))]
      rfl
    · rw [if_neg c8, if_neg c8]
      obtain ⟨b, hb1, hb2⟩ := wText hok hp
      have key : (decide (run (cW bt len) len p - p = kwL j) && tx bt p (kwW j) (kwL j)) = decide (wdV bt p (run (cW bt len) len p - p) = kw j) := by
        rw [hb2, hkw j hj]
        by_cases hh : lN (vN 256 b (run (cW bt len) len p - p)) = lN (vN 256 (kwB j) (kwL j))
        · rw [decide_eq_true hh]
          have l1 : vN 256 b (run (cW bt len) len p - p) < 2 ^ 64 := Nat.lt_of_lt_of_le (vN_lt _ (fun i hi => by have := (hb1 i hi).2; unfold okC at this; omega)) (pow8 (by omega))
          obtain ⟨e1, e2⟩ := vN_inj256 _ _ (fun i hi => by have := (hb1 i hi).2; unfold okC at this; omega) (fun i hi => by have := (hb i hi).2; omega) (lN_inj l1 (kwLt hj) hh)
          rw [decide_eq_true e1, Bool.true_and]
          refine (tx_all _).mpr (fun i hi => ?_)
          rw [(hb1 i (by omega)).1, e2 i (by omega), (hb i hi).1]
        · rw [decide_eq_false hh]
          cases c : (decide (run (cW bt len) len p - p = kwL j) && tx bt p (kwW j) (kwL j)) with
          | false => rfl
          | true =>
            exfalso
            rw [Bool.and_eq_true, decide_eq_true_eq, tx_all] at c
            apply hh
            rw [c.1, vN_same (kwL j) (fun i hi => ?_)]
            have a1 := (hb1 i (by omega)).1
            rw [c.2 i hi, (hb i hi).1, nI_eq (by have := (hb i hi).2; omega) (by have := (hb1 i (by omega)).2; unfold okC at this; omega)] at a1
            exact a1.symm
      rw [key]
      have := kwS_eq hkw (w := wdV bt p (run (cW bt len) len p - p)) hj
      by_cases hh : wdV bt p (run (cW bt len) len p - p) = kw j
      · rw [decide_eq_true hh, decide_eq_true (this.mpr hh)]; rfl
      · rw [decide_eq_false hh, decide_eq_false (fun e => hh (this.mp e))]; rfl
  have n1 : isL (bAt bt len p) = false := Bool.eq_false_iff.mpr c1
  rw [nx hp2 n1, Bool.and_false, Bool.and_false]
  symm
  refine decide_eq_false (fun e => ?_)
  rw [if_neg c1] at e
  have := congrArg Int32.toInt e
  rw [jl] at this
  split at this
  · split at this
    · have h53 : (54 : Int32).toInt = 54 := by decide
      omega
    · have h53 : (52 : Int32).toInt = 52 := by decide
      omega
  · split at this
    · have := s1_in (x := bAt bt len p); omega
    · have := s2_in (x := bAt bt len p) (y := bAt bt len (p + 1)); omega

/-- a sign of one byte is seen where the class sees it -/
theorem seeS1 (hok : okBt bt len) (hp : p ≤ len) {w ch c : Nat} (hw : SLEN.getD w 0 = 1) (hb : sByt w 0 = nI ch) (hch : ch < 256) (hL : isL (nI ch) = false) (hc1 : 30 ≤ c) (hc2 : c < 51) (hno : c ≠ 38 ∧ c ≠ 45 ∧ c ≠ 48 ∧ c ≠ 49 ∧ c ≠ 50) (hs : ∀ x, s1 x = nI c ↔ x = nI ch) : ((decide (kC bt len p = 1) || decide (kC bt len p = 3)) && (decide (eC bt len p - p = SLEN.getD w 0) && tx bt p w (SLEN.getD w 0))) = decide (sC kw bt len p = nI c) := by
  have jl : (nI c).toInt = c := nI_toInt (by omega)
  rw [hw]
  have tE : tx bt p w 1 = decide (bt p = nI ch) := by rw [tx, tx, Bool.true_and, hb, Nat.add_zero]
  rw [tE]
  unfold kC eC sC
  by_cases c0 : bAt bt len p = -1
  · rw [if_pos c0, if_pos c0, if_pos c0]
    rw [decide_eq_false (show ¬ (53 : Int32) = nI c from nIne 53 c (by omega) (by decide) (by omega))]
    rfl
  have hp2 : p < len := by
    by_cases hp2 : p < len
    · exact hp2
    · exact absurd (bAt_out (by omega)) c0
  rw [if_neg c0, if_neg c0, if_neg c0]
  by_cases c1 : isL (bAt bt len p) = true
  · rw [if_pos c1, if_pos c1, if_pos c1]
    have : decide (bt p = nI ch) = false := decide_eq_false (fun e => by rw [bAt_in hp2, e, hL] at c1; cases c1)
    rw [this, Bool.and_false, Bool.and_false]
    symm
    refine decide_eq_false (fun e => ?_)
    split at e
    · have := congrArg Int32.toInt e
      rw [jl] at this
      have h53 : (54 : Int32).toInt = 54 := by decide
      omega
    · exact kwS_ge hc1 hc2 e
  rw [if_neg c1, if_neg c1, if_neg c1]
  by_cases c2 : isD (bAt bt len p) = true
  · rw [if_pos c2, if_pos c2, if_pos c2]
    by_cases c6 : 6 < run (cD bt len) len p - p
    · rw [if_pos c6, if_pos c6, decide_eq_false (show ¬ (54 : Int32) = nI c from nIne 54 c (by omega) (by decide) (by omega))]
      rfl
    · rw [if_neg c6, if_neg c6, decide_eq_false (show ¬ (52 : Int32) = nI c from nIne 52 c (by omega) (by decide) (by omega))]
      rfl
  rw [if_neg c2, if_neg c2, if_neg c2]
  by_cases c3 : s2 (bAt bt len p) (bAt bt len (p + 1)) = 54
  · rw [if_pos c3, if_pos c3, Nat.add_sub_cancel_left]
    by_cases c4 : bAt bt len p = nI ch
    · have c5 := (hs _).mpr c4
      rw [decide_eq_true c5, if_neg (show ¬ (s2 (bAt bt len p) (bAt bt len (p + 1)) = 54 ∧ s1 (bAt bt len p) = 54) from fun e => nIne 54 c (by omega) (by decide) (by omega) (e.2.symm.trans c5))]
      rw [bAt_in hp2] at c4
      rw [decide_eq_true c4]; rfl
    · rw [decide_eq_false (fun e => c4 ((hs _).mp e))]
      rw [bAt_in hp2] at c4
      rw [decide_eq_false c4, Bool.and_false, Bool.and_false]
  · rw [if_neg c3, if_neg c3, show p + 2 - p = 2 by omega, decide_eq_false (show ¬ (2 = 1) by decide), Bool.false_and, Bool.and_false]
    symm
    refine decide_eq_false (fun e => ?_)
    rcases s2_val c3 with h | h | h | h | h <;> rw [h] at e <;> have := congrArg Int32.toInt e <;> rw [jl] at this
    · have h53 : (38 : Int32).toInt = 38 := by decide
      omega
    · have h53 : (45 : Int32).toInt = 45 := by decide
      omega
    · have h53 : (48 : Int32).toInt = 48 := by decide
      omega
    · have h53 : (49 : Int32).toInt = 49 := by decide
      omega
    · have h53 : (50 : Int32).toInt = 50 := by decide
      omega
/-- a sign of two bytes -/
theorem seeS2 (hok : okBt bt len) (hp : p ≤ len) {w ch c9 c : Nat} (hw : SLEN.getD w 0 = 2) (hb : sByt w 0 = nI ch) (hb2 : sByt w 1 = nI c9) (hL : isL (nI ch) = false) (hc1 : 30 ≤ c) (hc2 : c < 51) (hn1 : ∀ x, s1 x ≠ nI c) (hs : ∀ x y, s2 x y = nI c ↔ x = nI ch ∧ y = nI c9) : ((decide (kC bt len p = 1) || decide (kC bt len p = 3)) && (decide (eC bt len p - p = SLEN.getD w 0) && tx bt p w (SLEN.getD w 0))) = decide (sC kw bt len p = nI c) := by
  have jl : (nI c).toInt = c := nI_toInt (by omega)
  rw [hw]
  have tE : tx bt p w 2 = (decide (bt p = nI ch) && decide (bt (p + 1) = nI c9)) := by rw [tx, tx, tx, Bool.true_and, hb, hb2, Nat.add_zero]
  rw [tE]
  unfold kC eC sC
  by_cases c0 : bAt bt len p = -1
  · rw [if_pos c0, if_pos c0, if_pos c0]
    rw [decide_eq_false (show ¬ (53 : Int32) = nI c from nIne 53 c (by omega) (by decide) (by omega))]
    rfl
  have hp2 : p < len := by
    by_cases hp2 : p < len
    · exact hp2
    · exact absurd (bAt_out (by omega)) c0
  rw [if_neg c0, if_neg c0, if_neg c0]
  by_cases c1 : isL (bAt bt len p) = true
  · rw [if_pos c1, if_pos c1, if_pos c1]
    have : decide (bt p = nI ch) = false := decide_eq_false (fun e => by rw [bAt_in hp2, e, hL] at c1; cases c1)
    rw [this, Bool.false_and, Bool.and_false, Bool.and_false]
    symm
    refine decide_eq_false (fun e => ?_)
    split at e
    · have := congrArg Int32.toInt e
      rw [jl] at this
      have h53 : (54 : Int32).toInt = 54 := by decide
      omega
    · exact kwS_ge hc1 hc2 e
  rw [if_neg c1, if_neg c1, if_neg c1]
  by_cases c2 : isD (bAt bt len p) = true
  · rw [if_pos c2, if_pos c2, if_pos c2]
    by_cases c6 : 6 < run (cD bt len) len p - p
    · rw [if_pos c6, if_pos c6, decide_eq_false (show ¬ (54 : Int32) = nI c from nIne 54 c (by omega) (by decide) (by omega))]
      rfl
    · rw [if_neg c6, if_neg c6, decide_eq_false (show ¬ (52 : Int32) = nI c from nIne 52 c (by omega) (by decide) (by omega))]
      rfl
  rw [if_neg c2, if_neg c2, if_neg c2]
  by_cases c3 : s2 (bAt bt len p) (bAt bt len (p + 1)) = 54
  · rw [if_pos c3, if_pos c3, Nat.add_sub_cancel_left, decide_eq_false (show ¬ (1 = 2) by decide), Bool.false_and, Bool.and_false, decide_eq_false (hn1 _)]
  · have hp3 : p + 1 < len := by
      by_cases hp3 : p + 1 < len
      · exact hp3
      · exact absurd (bAt_out (by omega)) (s2_out c3)
    rw [if_neg c3, if_neg c3, show p + 2 - p = 2 by omega, if_neg (fun e => c3 e.1)]
    have := hs (bAt bt len p) (bAt bt len (p + 1))
    rw [bAt_in hp2, bAt_in hp3] at this ⊢
    by_cases c4 : bt p = nI ch ∧ bt (p + 1) = nI c9
    · rw [decide_eq_true (this.mpr c4), decide_eq_true c4.1, decide_eq_true c4.2]; rfl
    · rw [decide_eq_false (fun e => c4 (this.mp e))]
      by_cases c5 : bt p = nI ch
      · rw [decide_eq_false (fun e => c4 ⟨c5, e⟩), Bool.and_false, Bool.and_false, Bool.and_false]
      · rw [decide_eq_false c5, Bool.false_and, Bool.and_false, Bool.and_false]
theorem s1v_2 : ∀ x, s1 x = nI 44 ↔ x = nI 61 := by
  intro x
  constructor
  · intro h
    rcases s1_mem x with ⟨e, g⟩ | ⟨e, g⟩ | ⟨e, g⟩ | ⟨e, g⟩ | ⟨e, g⟩ | ⟨e, g⟩ | ⟨e, g⟩ | ⟨e, g⟩ | ⟨e, g⟩ | ⟨e, g⟩ | ⟨e, g⟩ | ⟨e, g⟩ | ⟨e, g⟩ | ⟨e, g⟩ | ⟨e, g⟩ | ⟨e, g⟩ | g
    · rw [g] at h; exact absurd h (by decide)
    · rw [g] at h; exact absurd h (by decide)
    · rw [g] at h; exact absurd h (by decide)
    · rw [g] at h; exact absurd h (by decide)
    · rw [g] at h; exact absurd h (by decide)
    · rw [g] at h; exact absurd h (by decide)
    · rw [g] at h; exact absurd h (by decide)
    · rw [g] at h; exact absurd h (by decide)
    · rw [g] at h; exact absurd h (by decide)
    · rw [g] at h; exact absurd h (by decide)
    · exact e
    · rw [g] at h; exact absurd h (by decide)
    · rw [g] at h; exact absurd h (by decide)
    · rw [g] at h; exact absurd h (by decide)
    · rw [g] at h; exact absurd h (by decide)
    · rw [g] at h; exact absurd h (by decide)
    · rw [g] at h; exact absurd h (by decide)
  · intro h; subst h; decide
theorem s1v_3 : ∀ x, s1 x = nI 40 ↔ x = nI 45 := by
  intro x
  constructor
  · intro h
    rcases s1_mem x with ⟨e, g⟩ | ⟨e, g⟩ | ⟨e, g⟩ | ⟨e, g⟩ | ⟨e, g⟩ | ⟨e, g⟩ | ⟨e, g⟩ | ⟨e, g⟩ | ⟨e, g⟩ | ⟨e, g⟩ | ⟨e, g⟩ | ⟨e, g⟩ | ⟨e, g⟩ | ⟨e, g⟩ | ⟨e, g⟩ | ⟨e, g⟩ | g
    · rw [g] at h; exact absurd h (by decide)
    · rw [g] at h; exact absurd h (by decide)
    · rw [g] at h; exact absurd h (by decide)
    · rw [g] at h; exact absurd h (by decide)
    · rw [g] at h; exact absurd h (by decide)
    · exact e
    · rw [g] at h; exact absurd h (by decide)
    · rw [g] at h; exact absurd h (by decide)
    · rw [g] at h; exact absurd h (by decide)
    · rw [g] at h; exact absurd h (by decide)
    · rw [g] at h; exact absurd h (by decide)
    · rw [g] at h; exact absurd h (by decide)
    · rw [g] at h; exact absurd h (by decide)
    · rw [g] at h; exact absurd h (by decide)
    · rw [g] at h; exact absurd h (by decide)
    · rw [g] at h; exact absurd h (by decide)
    · rw [g] at h; exact absurd h (by decide)
  · intro h; subst h; decide
theorem s1v_4 : ∀ x, s1 x = nI 36 ↔ x = nI 59 := by
  intro x
  constructor
  · intro h
    rcases s1_mem x with ⟨e, g⟩ | ⟨e, g⟩ | ⟨e, g⟩ | ⟨e, g⟩ | ⟨e, g⟩ | ⟨e, g⟩ | ⟨e, g⟩ | ⟨e, g⟩ | ⟨e, g⟩ | ⟨e, g⟩ | ⟨e, g⟩ | ⟨e, g⟩ | ⟨e, g⟩ | ⟨e, g⟩ | ⟨e, g⟩ | ⟨e, g⟩ | g
    · rw [g] at h; exact absurd h (by decide)
    · rw [g] at h; exact absurd h (by decide)
    · rw [g] at h; exact absurd h (by decide)
    · rw [g] at h; exact absurd h (by decide)
    · rw [g] at h; exact absurd h (by decide)
    · rw [g] at h; exact absurd h (by decide)
    · rw [g] at h; exact absurd h (by decide)
    · rw [g] at h; exact absurd h (by decide)
    · exact e
    · rw [g] at h; exact absurd h (by decide)
    · rw [g] at h; exact absurd h (by decide)
    · rw [g] at h; exact absurd h (by decide)
    · rw [g] at h; exact absurd h (by decide)
    · rw [g] at h; exact absurd h (by decide)
    · rw [g] at h; exact absurd h (by decide)
    · rw [g] at h; exact absurd h (by decide)
    · rw [g] at h; exact absurd h (by decide)
  · intro h; subst h; decide
theorem s1v_9 : ∀ x, s1 x = nI 37 ↔ x = nI 58 := by
  intro x
  constructor
  · intro h
    rcases s1_mem x with ⟨e, g⟩ | ⟨e, g⟩ | ⟨e, g⟩ | ⟨e, g⟩ | ⟨e, g⟩ | ⟨e, g⟩ | ⟨e, g⟩ | ⟨e, g⟩ | ⟨e, g⟩ | ⟨e, g⟩ | ⟨e, g⟩ | ⟨e, g⟩ | ⟨e, g⟩ | ⟨e, g⟩ | ⟨e, g⟩ | ⟨e, g⟩ | g
    · rw [g] at h; exact absurd h (by decide)
    · rw [g] at h; exact absurd h (by decide)
    · rw [g] at h; exact absurd h (by decide)
    · rw [g] at h; exact absurd h (by decide)
    · rw [g] at h; exact absurd h (by decide)
    · rw [g] at h; exact absurd h (by decide)
    · rw [g] at h; exact absurd h (by decide)
    · exact e
    · rw [g] at h; exact absurd h (by decide)
    · rw [g] at h; exact absurd h (by decide)
    · rw [g] at h; exact absurd h (by decide)
    · rw [g] at h; exact absurd h (by decide)
    · rw [g] at h; exact absurd h (by decide)
    · rw [g] at h; exact absurd h (by decide)
    · rw [g] at h; exact absurd h (by decide)
    · rw [g] at h; exact absurd h (by decide)
    · rw [g] at h; exact absurd h (by decide)
  · intro h; subst h; decide
theorem s1v_15 : ∀ x, s1 x = nI 34 ↔ x = nI 91 := by
  intro x
  constructor
  · intro h
    rcases s1_mem x with ⟨e, g⟩ | ⟨e, g⟩ | ⟨e, g⟩ | ⟨e, g⟩ | ⟨e, g⟩ | ⟨e, g⟩ | ⟨e, g⟩ | ⟨e, g⟩ | ⟨e, g⟩ | ⟨e, g⟩ | ⟨e, g⟩ | ⟨e, g⟩ | ⟨e, g⟩ | ⟨e, g⟩ | ⟨e, g⟩ | ⟨e, g⟩ | g
    · rw [g] at h; exact absurd h (by decide)
    · rw [g] at h; exact absurd h (by decide)
    · rw [g] at h; exact absurd h (by decide)
    · rw [g] at h; exact absurd h (by decide)
    · rw [g] at h; exact absurd h (by decide)
    · rw [g] at h; exact absurd h (by decide)
    · rw [g] at h; exact absurd h (by decide)
    · rw [g] at h; exact absurd h (by decide)
    · rw [g] at h; exact absurd h (by decide)
    · rw [g] at h; exact absurd h (by decide)
    · rw [g] at h; exact absurd h (by decide)
    · rw [g] at h; exact absurd h (by decide)
    · exact e
    · rw [g] at h; exact absurd h (by decide)
    · rw [g] at h; exact absurd h (by decide)
    · rw [g] at h; exact absurd h (by decide)
    · rw [g] at h; exact absurd h (by decide)
  · intro h; subst h; decide
theorem s1v_17 : ∀ x, s1 x = nI 35 ↔ x = nI 93 := by
  intro x
  constructor
  · intro h
    rcases s1_mem x with ⟨e, g⟩ | ⟨e, g⟩ | ⟨e, g⟩ | ⟨e, g⟩ | ⟨e, g⟩ | ⟨e, g⟩ | ⟨e, g⟩ | ⟨e, g⟩ | ⟨e, g⟩ | ⟨e, g⟩ | ⟨e, g⟩ | ⟨e, g⟩ | ⟨e, g⟩ | ⟨e, g⟩ | ⟨e, g⟩ | ⟨e, g⟩ | g
    · rw [g] at h; exact absurd h (by decide)
    · rw [g] at h; exact absurd h (by decide)
    · rw [g] at h; exact absurd h (by decide)
    · rw [g] at h; exact absurd h (by decide)
    · rw [g] at h; exact absurd h (by decide)
    · rw [g] at h; exact absurd h (by decide)
    · rw [g] at h; exact absurd h (by decide)
    · rw [g] at h; exact absurd h (by decide)
    · rw [g] at h; exact absurd h (by decide)
    · rw [g] at h; exact absurd h (by decide)
    · rw [g] at h; exact absurd h (by decide)
    · rw [g] at h; exact absurd h (by decide)
    · rw [g] at h; exact absurd h (by decide)
    · exact e
    · rw [g] at h; exact absurd h (by decide)
    · rw [g] at h; exact absurd h (by decide)
    · rw [g] at h; exact absurd h (by decide)
  · intro h; subst h; decide
theorem s1v_18 : ∀ x, s1 x = nI 32 ↔ x = nI 123 := by
  intro x
  constructor
  · intro h
    rcases s1_mem x with ⟨e, g⟩ | ⟨e, g⟩ | ⟨e, g⟩ | ⟨e, g⟩ | ⟨e, g⟩ | ⟨e, g⟩ | ⟨e, g⟩ | ⟨e, g⟩ | ⟨e, g⟩ | ⟨e, g⟩ | ⟨e, g⟩ | ⟨e, g⟩ | ⟨e, g⟩ | ⟨e, g⟩ | ⟨e, g⟩ | ⟨e, g⟩ | g
    · rw [g] at h; exact absurd h (by decide)
    · rw [g] at h; exact absurd h (by decide)
    · rw [g] at h; exact absurd h (by decide)
    · rw [g] at h; exact absurd h (by decide)
    · rw [g] at h; exact absurd h (by decide)
    · rw [g] at h; exact absurd h (by decide)
    · rw [g] at h; exact absurd h (by decide)
    · rw [g] at h; exact absurd h (by decide)
    · rw [g] at h; exact absurd h (by decide)
    · rw [g] at h; exact absurd h (by decide)
    · rw [g] at h; exact absurd h (by decide)
    · rw [g] at h; exact absurd h (by decide)
    · rw [g] at h; exact absurd h (by decide)
    · rw [g] at h; exact absurd h (by decide)
    · exact e
    · rw [g] at h; exact absurd h (by decide)
    · rw [g] at h; exact absurd h (by decide)
  · intro h; subst h; decide
theorem s1v_19 : ∀ x, s1 x = nI 33 ↔ x = nI 125 := by
  intro x
  constructor
  · intro h
    rcases s1_mem x with ⟨e, g⟩ | ⟨e, g⟩ | ⟨e, g⟩ | ⟨e, g⟩ | ⟨e, g⟩ | ⟨e, g⟩ | ⟨e, g⟩ | ⟨e, g⟩ | ⟨e, g⟩ | ⟨e, g⟩ | ⟨e, g⟩ | ⟨e, g⟩ | ⟨e, g⟩ | ⟨e, g⟩ | ⟨e, g⟩ | ⟨e, g⟩ | g
    · rw [g] at h; exact absurd h (by decide)
    · rw [g] at h; exact absurd h (by decide)
    · rw [g] at h; exact absurd h (by decide)
    · rw [g] at h; exact absurd h (by decide)
    · rw [g] at h; exact absurd h (by decide)
    · rw [g] at h; exact absurd h (by decide)
    · rw [g] at h; exact absurd h (by decide)
    · rw [g] at h; exact absurd h (by decide)
    · rw [g] at h; exact absurd h (by decide)
    · rw [g] at h; exact absurd h (by decide)
    · rw [g] at h; exact absurd h (by decide)
    · rw [g] at h; exact absurd h (by decide)
    · rw [g] at h; exact absurd h (by decide)
    · rw [g] at h; exact absurd h (by decide)
    · rw [g] at h; exact absurd h (by decide)
    · exact e
    · rw [g] at h; exact absurd h (by decide)
  · intro h; subst h; decide
theorem s1v_23 : ∀ x, s1 x = nI 39 ↔ x = nI 43 := by
  intro x
  constructor
  · intro h
    rcases s1_mem x with ⟨e, g⟩ | ⟨e, g⟩ | ⟨e, g⟩ | ⟨e, g⟩ | ⟨e, g⟩ | ⟨e, g⟩ | ⟨e, g⟩ | ⟨e, g⟩ | ⟨e, g⟩ | ⟨e, g⟩ | ⟨e, g⟩ | ⟨e, g⟩ | ⟨e, g⟩ | ⟨e, g⟩ | ⟨e, g⟩ | ⟨e, g⟩ | g
    · rw [g] at h; exact absurd h (by decide)
    · rw [g] at h; exact absurd h (by decide)
    · rw [g] at h; exact absurd h (by decide)
    · rw [g] at h; exact absurd h (by decide)
    · exact e
    · rw [g] at h; exact absurd h (by decide)
    · rw [g] at h; exact absurd h (by decide)
    · rw [g] at h; exact absurd h (by decide)
    · rw [g] at h; exact absurd h (by decide)
    · rw [g] at h; exact absurd h (by decide)
    · rw [g] at h; exact absurd h (by decide)
    · rw [g] at h; exact absurd h (by decide)
    · rw [g] at h; exact absurd h (by decide)
    · rw [g] at h; exact absurd h (by decide)
    · rw [g] at h; exact absurd h (by decide)
    · rw [g] at h; exact absurd h (by decide)
    · rw [g] at h; exact absurd h (by decide)
  · intro h; subst h; decide
theorem s1v_24 : ∀ x, s1 x = nI 41 ↔ x = nI 42 := by
  intro x
  constructor
  · intro h
    rcases s1_mem x with ⟨e, g⟩ | ⟨e, g⟩ | ⟨e, g⟩ | ⟨e, g⟩ | ⟨e, g⟩ | ⟨e, g⟩ | ⟨e, g⟩ | ⟨e, g⟩ | ⟨e, g⟩ | ⟨e, g⟩ | ⟨e, g⟩ | ⟨e, g⟩ | ⟨e, g⟩ | ⟨e, g⟩ | ⟨e, g⟩ | ⟨e, g⟩ | g
    · rw [g] at h; exact absurd h (by decide)
    · rw [g] at h; exact absurd h (by decide)
    · rw [g] at h; exact absurd h (by decide)
    · exact e
    · rw [g] at h; exact absurd h (by decide)
    · rw [g] at h; exact absurd h (by decide)
    · rw [g] at h; exact absurd h (by decide)
    · rw [g] at h; exact absurd h (by decide)
    · rw [g] at h; exact absurd h (by decide)
    · rw [g] at h; exact absurd h (by decide)
    · rw [g] at h; exact absurd h (by decide)
    · rw [g] at h; exact absurd h (by decide)
    · rw [g] at h; exact absurd h (by decide)
    · rw [g] at h; exact absurd h (by decide)
    · rw [g] at h; exact absurd h (by decide)
    · rw [g] at h; exact absurd h (by decide)
    · rw [g] at h; exact absurd h (by decide)
  · intro h; subst h; decide
theorem s1v_25 : ∀ x, s1 x = nI 42 ↔ x = nI 47 := by
  intro x
  constructor
  · intro h
    rcases s1_mem x with ⟨e, g⟩ | ⟨e, g⟩ | ⟨e, g⟩ | ⟨e, g⟩ | ⟨e, g⟩ | ⟨e, g⟩ | ⟨e, g⟩ | ⟨e, g⟩ | ⟨e, g⟩ | ⟨e, g⟩ | ⟨e, g⟩ | ⟨e, g⟩ | ⟨e, g⟩ | ⟨e, g⟩ | ⟨e, g⟩ | ⟨e, g⟩ | g
    · rw [g] at h; exact absurd h (by decide)
    · rw [g] at h; exact absurd h (by decide)
    · rw [g] at h; exact absurd h (by decide)
    · rw [g] at h; exact absurd h (by decide)
    · rw [g] at h; exact absurd h (by decide)
    · rw [g] at h; exact absurd h (by decide)
    · exact e
    · rw [g] at h; exact absurd h (by decide)
    · rw [g] at h; exact absurd h (by decide)
    · rw [g] at h; exact absurd h (by decide)
    · rw [g] at h; exact absurd h (by decide)
    · rw [g] at h; exact absurd h (by decide)
    · rw [g] at h; exact absurd h (by decide)
    · rw [g] at h; exact absurd h (by decide)
    · rw [g] at h; exact absurd h (by decide)
    · rw [g] at h; exact absurd h (by decide)
    · rw [g] at h; exact absurd h (by decide)
  · intro h; subst h; decide
theorem s1v_26 : ∀ x, s1 x = nI 43 ↔ x = nI 37 := by
  intro x
  constructor
  · intro h
    rcases s1_mem x with ⟨e, g⟩ | ⟨e, g⟩ | ⟨e, g⟩ | ⟨e, g⟩ | ⟨e, g⟩ | ⟨e, g⟩ | ⟨e, g⟩ | ⟨e, g⟩ | ⟨e, g⟩ | ⟨e, g⟩ | ⟨e, g⟩ | ⟨e, g⟩ | ⟨e, g⟩ | ⟨e, g⟩ | ⟨e, g⟩ | ⟨e, g⟩ | g
    · exact e
    · rw [g] at h; exact absurd h (by decide)
    · rw [g] at h; exact absurd h (by decide)
    · rw [g] at h; exact absurd h (by decide)
    · rw [g] at h; exact absurd h (by decide)
    · rw [g] at h; exact absurd h (by decide)
    · rw [g] at h; exact absurd h (by decide)
    · rw [g] at h; exact absurd h (by decide)
    · rw [g] at h; exact absurd h (by decide)
    · rw [g] at h; exact absurd h (by decide)
    · rw [g] at h; exact absurd h (by decide)
    · rw [g] at h; exact absurd h (by decide)
    · rw [g] at h; exact absurd h (by decide)
    · rw [g] at h; exact absurd h (by decide)
    · rw [g] at h; exact absurd h (by decide)
    · rw [g] at h; exact absurd h (by decide)
    · rw [g] at h; exact absurd h (by decide)
  · intro h; subst h; decide
theorem s1v_29 : ∀ x, s1 x = nI 30 ↔ x = nI 40 := by
  intro x
  constructor
  · intro h
    rcases s1_mem x with ⟨e, g⟩ | ⟨e, g⟩ | ⟨e, g⟩ | ⟨e, g⟩ | ⟨e, g⟩ | ⟨e, g⟩ | ⟨e, g⟩ | ⟨e, g⟩ | ⟨e, g⟩ | ⟨e, g⟩ | ⟨e, g⟩ | ⟨e, g⟩ | ⟨e, g⟩ | ⟨e, g⟩ | ⟨e, g⟩ | ⟨e, g⟩ | g
    · rw [g] at h; exact absurd h (by decide)
    · exact e
    · rw [g] at h; exact absurd h (by decide)
    · rw [g] at h; exact absurd h (by decide)
    · rw [g] at h; exact absurd h (by decide)
    · rw [g] at h; exact absurd h (by decide)
    · rw [g] at h; exact absurd h (by decide)
    · rw [g] at h; exact absurd h (by decide)
    · rw [g] at h; exact absurd h (by decide)
    · rw [g] at h; exact absurd h (by decide)
    · rw [g] at h; exact absurd h (by decide)
    · rw [g] at h; exact absurd h (by decide)
    · rw [g] at h; exact absurd h (by decide)
    · rw [g] at h; exact absurd h (by decide)
    · rw [g] at h; exact absurd h (by decide)
    · rw [g] at h; exact absurd h (by decide)
    · rw [g] at h; exact absurd h (by decide)
  · intro h; subst h; decide
theorem s1v_30 : ∀ x, s1 x = nI 31 ↔ x = nI 41 := by
  intro x
  constructor
  · intro h
    rcases s1_mem x with ⟨e, g⟩ | ⟨e, g⟩ | ⟨e, g⟩ | ⟨e, g⟩ | ⟨e, g⟩ | ⟨e, g⟩ | ⟨e, g⟩ | ⟨e, g⟩ | ⟨e, g⟩ | ⟨e, g⟩ | ⟨e, g⟩ | ⟨e, g⟩ | ⟨e, g⟩ | ⟨e, g⟩ | ⟨e, g⟩ | ⟨e, g⟩ | g
    · rw [g] at h; exact absurd h (by decide)
    · rw [g] at h; exact absurd h (by decide)
    · exact e
    · rw [g] at h; exact absurd h (by decide)
    · rw [g] at h; exact absurd h (by decide)
    · rw [g] at h; exact absurd h (by decide)
    · rw [g] at h; exact absurd h (by decide)
    · rw [g] at h; exact absurd h (by decide)
    · rw [g] at h; exact absurd h (by decide)
    · rw [g] at h; exact absurd h (by decide)
    · rw [g] at h; exact absurd h (by decide)
    · rw [g] at h; exact absurd h (by decide)
    · rw [g] at h; exact absurd h (by decide)
    · rw [g] at h; exact absurd h (by decide)
    · rw [g] at h; exact absurd h (by decide)
    · rw [g] at h; exact absurd h (by decide)
    · rw [g] at h; exact absurd h (by decide)
  · intro h; subst h; decide
theorem s1v_48 : ∀ x, s1 x = nI 46 ↔ x = nI 60 := by
  intro x
  constructor
  · intro h
    rcases s1_mem x with ⟨e, g⟩ | ⟨e, g⟩ | ⟨e, g⟩ | ⟨e, g⟩ | ⟨e, g⟩ | ⟨e, g⟩ | ⟨e, g⟩ | ⟨e, g⟩ | ⟨e, g⟩ | ⟨e, g⟩ | ⟨e, g⟩ | ⟨e, g⟩ | ⟨e, g⟩ | ⟨e, g⟩ | ⟨e, g⟩ | ⟨e, g⟩ | g
    · rw [g] at h; exact absurd h (by decide)
    · rw [g] at h; exact absurd h (by decide)
    · rw [g] at h; exact absurd h (by decide)
    · rw [g] at h; exact absurd h (by decide)
    · rw [g] at h; exact absurd h (by decide)
    · rw [g] at h; exact absurd h (by decide)
    · rw [g] at h; exact absurd h (by decide)
    · rw [g] at h; exact absurd h (by decide)
    · rw [g] at h; exact absurd h (by decide)
    · exact e
    · rw [g] at h; exact absurd h (by decide)
    · rw [g] at h; exact absurd h (by decide)
    · rw [g] at h; exact absurd h (by decide)
    · rw [g] at h; exact absurd h (by decide)
    · rw [g] at h; exact absurd h (by decide)
    · rw [g] at h; exact absurd h (by decide)
    · rw [g] at h; exact absurd h (by decide)
  · intro h; subst h; decide
theorem s1v_49 : ∀ x, s1 x = nI 47 ↔ x = nI 62 := by
  intro x
  constructor
  · intro h
    rcases s1_mem x with ⟨e, g⟩ | ⟨e, g⟩ | ⟨e, g⟩ | ⟨e, g⟩ | ⟨e, g⟩ | ⟨e, g⟩ | ⟨e, g⟩ | ⟨e, g⟩ | ⟨e, g⟩ | ⟨e, g⟩ | ⟨e, g⟩ | ⟨e, g⟩ | ⟨e, g⟩ | ⟨e, g⟩ | ⟨e, g⟩ | ⟨e, g⟩ | g
    · rw [g] at h; exact absurd h (by decide)
    · rw [g] at h; exact absurd h (by decide)
    · rw [g] at h; exact absurd h (by decide)
    · rw [g] at h; exact absurd h (by decide)
    · rw [g] at h; exact absurd h (by decide)
    · rw [g] at h; exact absurd h (by decide)
    · rw [g] at h; exact absurd h (by decide)
    · rw [g] at h; exact absurd h (by decide)
    · rw [g] at h; exact absurd h (by decide)
    · rw [g] at h; exact absurd h (by decide)
    · rw [g] at h; exact absurd h (by decide)
    · exact e
    · rw [g] at h; exact absurd h (by decide)
    · rw [g] at h; exact absurd h (by decide)
    · rw [g] at h; exact absurd h (by decide)
    · rw [g] at h; exact absurd h (by decide)
    · rw [g] at h; exact absurd h (by decide)
  · intro h; subst h; decide
theorem s2v_6 : ∀ x y, s2 x y = nI 38 ↔ x = nI 58 ∧ y = nI 61 := by
  intro x y
  constructor
  · intro h
    rcases s2_mem x y with ⟨e, f, g⟩ | ⟨e, f, g⟩ | ⟨e, f, g⟩ | ⟨e, f, g⟩ | ⟨e, f, g⟩ | g
    · exact ⟨e, f⟩
    · rw [g] at h; exact absurd h (by decide)
    · rw [g] at h; exact absurd h (by decide)
    · rw [g] at h; exact absurd h (by decide)
    · rw [g] at h; exact absurd h (by decide)
    · rw [g] at h; exact absurd h (by decide)
  · rintro ⟨rfl, rfl⟩; decide
theorem s2v_16 : ∀ x y, s2 x y = nI 50 ↔ x = nI 46 ∧ y = nI 46 := by
  intro x y
  constructor
  · intro h
    rcases s2_mem x y with ⟨e, f, g⟩ | ⟨e, f, g⟩ | ⟨e, f, g⟩ | ⟨e, f, g⟩ | ⟨e, f, g⟩ | g
    · rw [g] at h; exact absurd h (by decide)
    · rw [g] at h; exact absurd h (by decide)
    · rw [g] at h; exact absurd h (by decide)
    · rw [g] at h; exact absurd h (by decide)
    · exact ⟨e, f⟩
    · rw [g] at h; exact absurd h (by decide)
  · rintro ⟨rfl, rfl⟩; decide
theorem s2v_47 : ∀ x y, s2 x y = nI 45 ↔ x = nI 60 ∧ y = nI 62 := by
  intro x y
  constructor
  · intro h
    rcases s2_mem x y with ⟨e, f, g⟩ | ⟨e, f, g⟩ | ⟨e, f, g⟩ | ⟨e, f, g⟩ | ⟨e, f, g⟩ | g
    · rw [g] at h; exact absurd h (by decide)
    · rw [g] at h; exact absurd h (by decide)
    · rw [g] at h; exact absurd h (by decide)
    · exact ⟨e, f⟩
    · rw [g] at h; exact absurd h (by decide)
    · rw [g] at h; exact absurd h (by decide)
  · rintro ⟨rfl, rfl⟩; decide
theorem s2v_50 : ∀ x y, s2 x y = nI 48 ↔ x = nI 60 ∧ y = nI 61 := by
  intro x y
  constructor
  · intro h
    rcases s2_mem x y with ⟨e, f, g⟩ | ⟨e, f, g⟩ | ⟨e, f, g⟩ | ⟨e, f, g⟩ | ⟨e, f, g⟩ | g
    · rw [g] at h; exact absurd h (by decide)
    · exact ⟨e, f⟩
    · rw [g] at h; exact absurd h (by decide)
    · rw [g] at h; exact absurd h (by decide)
    · rw [g] at h; exact absurd h (by decide)
    · rw [g] at h; exact absurd h (by decide)
  · rintro ⟨rfl, rfl⟩; decide
theorem s2v_51 : ∀ x y, s2 x y = nI 49 ↔ x = nI 62 ∧ y = nI 61 := by
  intro x y
  constructor
  · intro h
    rcases s2_mem x y with ⟨e, f, g⟩ | ⟨e, f, g⟩ | ⟨e, f, g⟩ | ⟨e, f, g⟩ | ⟨e, f, g⟩ | g
    · rw [g] at h; exact absurd h (by decide)
    · rw [g] at h; exact absurd h (by decide)
    · exact ⟨e, f⟩
    · rw [g] at h; exact absurd h (by decide)
    · rw [g] at h; exact absurd h (by decide)
    · rw [g] at h; exact absurd h (by decide)
  · rintro ⟨rfl, rfl⟩; decide

/-- the reference's rows of tokens -/
def TKR (bt : Nat → Int32) (len : Nat) (S : Nat → Int32) (σ : MS) : Prop := σ.2.1 1 = bt ∧ ∀ k, Rk S k → σ.2.1 4 k = kS bt len k ∧ σ.2.1 5 k = nI (pC bt len k) ∧ σ.2.1 6 k = nI (eC bt len (pC bt len k))
theorem rIsT {w : Nat} (hw : w < 53) (hok : okBt bt len) {S : Nat → Int32} (hT : TKR bt len S σ) (hk : Rk S k) (hL : 1000 ≤ L) : FX11_is L (nI k) w σ = some (bI ((decide (kC bt len (pC bt len k) = 1) || decide (kC bt len (pC bt len k) = 3)) && (decide (eC bt len (pC bt len k) - pC bt len k = SLEN.getD w 0) && tx bt (pC bt len k) w (SLEN.getD w 0))), σ) := by
  obtain ⟨t1, t2⟩ := hT
  obtain ⟨t4, t5, t6⟩ := t2 k hk
  obtain ⟨-, -, g3, -⟩ := pC_le hok k
  obtain ⟨e1, e2, -⟩ := eC_le hok g3
  have := rIsE (σ := σ) (L := L) hw (show k < 1801 by have := hk.1; omega) t5 t6 e1 (by have := hok.1; omega) hL
  rw [t1, t4] at this
  exact this
theorem rIs_1 (hkw : kwOK kw) (hok : okBt bt len) (hT : TKR bt len (tkS kw bt len) σ) (hk : Rk (tkS kw bt len) k) (hL : 1000 ≤ L) : FX11_is L (nI k) 1 σ = some (bI (decide (tkS kw bt len k = 0)), σ) := by
  rw [rIsT (by decide) hok hT hk hL]
  have := seeK (kw := kw) hkw hok (pC_le hok k).2.2.1 (show 0 < 30 by decide)
  rw [show kwW 0 = 1 from rfl, show kwL 0 = SLEN.getD 1 0 from rfl] at this
  rw [this]; rfl
theorem rIs_5 (hkw : kwOK kw) (hok : okBt bt len) (hT : TKR bt len (tkS kw bt len) σ) (hk : Rk (tkS kw bt len) k) (hL : 1000 ≤ L) : FX11_is L (nI k) 5 σ = some (bI (decide (tkS kw bt len k = 1)), σ) := by
  rw [rIsT (by decide) hok hT hk hL]
  have := seeK (kw := kw) hkw hok (pC_le hok k).2.2.1 (show 1 < 30 by decide)
  rw [show kwW 1 = 5 from rfl, show kwL 1 = SLEN.getD 5 0 from rfl] at this
  rw [this]; rfl
theorem rIs_7 (hkw : kwOK kw) (hok : okBt bt len) (hT : TKR bt len (tkS kw bt len) σ) (hk : Rk (tkS kw bt len) k) (hL : 1000 ≤ L) : FX11_is L (nI k) 7 σ = some (bI (decide (tkS kw bt len k = 2)), σ) := by
  rw [rIsT (by decide) hok hT hk hL]
  have := seeK (kw := kw) hkw hok (pC_le hok k).2.2.1 (show 2 < 30 by decide)
  rw [show kwW 2 = 7 from rfl, show kwL 2 = SLEN.getD 7 0 from rfl] at this
  rw [this]; rfl
theorem rIs_8 (hkw : kwOK kw) (hok : okBt bt len) (hT : TKR bt len (tkS kw bt len) σ) (hk : Rk (tkS kw bt len) k) (hL : 1000 ≤ L) : FX11_is L (nI k) 8 σ = some (bI (decide (tkS kw bt len k = 3)), σ) := by
  rw [rIsT (by decide) hok hT hk hL]
  have := seeK (kw := kw) hkw hok (pC_le hok k).2.2.1 (show 3 < 30 by decide)
  rw [show kwW 3 = 8 from rfl, show kwL 3 = SLEN.getD 8 0 from rfl] at this
  rw [this]; rfl
theorem rIs_10 (hkw : kwOK kw) (hok : okBt bt len) (hT : TKR bt len (tkS kw bt len) σ) (hk : Rk (tkS kw bt len) k) (hL : 1000 ≤ L) : FX11_is L (nI k) 10 σ = some (bI (decide (tkS kw bt len k = 4)), σ) := by
  rw [rIsT (by decide) hok hT hk hL]
  have := seeK (kw := kw) hkw hok (pC_le hok k).2.2.1 (show 4 < 30 by decide)
  rw [show kwW 4 = 10 from rfl, show kwL 4 = SLEN.getD 10 0 from rfl] at this
  rw [this]; rfl
theorem rIs_37 (hkw : kwOK kw) (hok : okBt bt len) (hT : TKR bt len (tkS kw bt len) σ) (hk : Rk (tkS kw bt len) k) (hL : 1000 ≤ L) : FX11_is L (nI k) 37 σ = some (bI (decide (tkS kw bt len k = 5)), σ) := by
  rw [rIsT (by decide) hok hT hk hL]
  have := seeK (kw := kw) hkw hok (pC_le hok k).2.2.1 (show 5 < 30 by decide)
  rw [show kwW 5 = 37 from rfl, show kwL 5 = SLEN.getD 37 0 from rfl] at this
  rw [this]; rfl
theorem rIs_38 (hkw : kwOK kw) (hok : okBt bt len) (hT : TKR bt len (tkS kw bt len) σ) (hk : Rk (tkS kw bt len) k) (hL : 1000 ≤ L) : FX11_is L (nI k) 38 σ = some (bI (decide (tkS kw bt len k = 6)), σ) := by
  rw [rIsT (by decide) hok hT hk hL]
  have := seeK (kw := kw) hkw hok (pC_le hok k).2.2.1 (show 6 < 30 by decide)
  rw [show kwW 6 = 38 from rfl, show kwL 6 = SLEN.getD 38 0 from rfl] at this
  rw [this]; rfl
theorem rIs_39 (hkw : kwOK kw) (hok : okBt bt len) (hT : TKR bt len (tkS kw bt len) σ) (hk : Rk (tkS kw bt len) k) (hL : 1000 ≤ L) : FX11_is L (nI k) 39 σ = some (bI (decide (tkS kw bt len k = 7)), σ) := by
  rw [rIsT (by decide) hok hT hk hL]
  have := seeK (kw := kw) hkw hok (pC_le hok k).2.2.1 (show 7 < 30 by decide)
  rw [show kwW 7 = 39 from rfl, show kwL 7 = SLEN.getD 39 0 from rfl] at this
  rw [this]; rfl
theorem rIs_40 (hkw : kwOK kw) (hok : okBt bt len) (hT : TKR bt len (tkS kw bt len) σ) (hk : Rk (tkS kw bt len) k) (hL : 1000 ≤ L) : FX11_is L (nI k) 40 σ = some (bI (decide (tkS kw bt len k = 8)), σ) := by
  rw [rIsT (by decide) hok hT hk hL]
  have := seeK (kw := kw) hkw hok (pC_le hok k).2.2.1 (show 8 < 30 by decide)
  rw [show kwW 8 = 40 from rfl, show kwL 8 = SLEN.getD 40 0 from rfl] at this
  rw [this]; rfl
theorem rIs_41 (hkw : kwOK kw) (hok : okBt bt len) (hT : TKR bt len (tkS kw bt len) σ) (hk : Rk (tkS kw bt len) k) (hL : 1000 ≤ L) : FX11_is L (nI k) 41 σ = some (bI (decide (tkS kw bt len k = 9)), σ) := by
  rw [rIsT (by decide) hok hT hk hL]
  have := seeK (kw := kw) hkw hok (pC_le hok k).2.2.1 (show 9 < 30 by decide)
  rw [show kwW 9 = 41 from rfl, show kwL 9 = SLEN.getD 41 0 from rfl] at this
  rw [this]; rfl
theorem rIs_42 (hkw : kwOK kw) (hok : okBt bt len) (hT : TKR bt len (tkS kw bt len) σ) (hk : Rk (tkS kw bt len) k) (hL : 1000 ≤ L) : FX11_is L (nI k) 42 σ = some (bI (decide (tkS kw bt len k = 10)), σ) := by
  rw [rIsT (by decide) hok hT hk hL]
  have := seeK (kw := kw) hkw hok (pC_le hok k).2.2.1 (show 10 < 30 by decide)
  rw [show kwW 10 = 42 from rfl, show kwL 10 = SLEN.getD 42 0 from rfl] at this
  rw [this]; rfl
theorem rIs_14 (hkw : kwOK kw) (hok : okBt bt len) (hT : TKR bt len (tkS kw bt len) σ) (hk : Rk (tkS kw bt len) k) (hL : 1000 ≤ L) : FX11_is L (nI k) 14 σ = some (bI (decide (tkS kw bt len k = 11)), σ) := by
  rw [rIsT (by decide) hok hT hk hL]
  have := seeK (kw := kw) hkw hok (pC_le hok k).2.2.1 (show 11 < 30 by decide)
  rw [show kwW 11 = 14 from rfl, show kwL 11 = SLEN.getD 14 0 from rfl] at this
  rw [this]; rfl
theorem rIs_13 (hkw : kwOK kw) (hok : okBt bt len) (hT : TKR bt len (tkS kw bt len) σ) (hk : Rk (tkS kw bt len) k) (hL : 1000 ≤ L) : FX11_is L (nI k) 13 σ = some (bI (decide (tkS kw bt len k = 12)), σ) := by
  rw [rIsT (by decide) hok hT hk hL]
  have := seeK (kw := kw) hkw hok (pC_le hok k).2.2.1 (show 12 < 30 by decide)
  rw [show kwW 12 = 13 from rfl, show kwL 12 = SLEN.getD 13 0 from rfl] at this
  rw [this]; rfl
theorem rIs_11 (hkw : kwOK kw) (hok : okBt bt len) (hT : TKR bt len (tkS kw bt len) σ) (hk : Rk (tkS kw bt len) k) (hL : 1000 ≤ L) : FX11_is L (nI k) 11 σ = some (bI (decide (tkS kw bt len k = 13)), σ) := by
  rw [rIsT (by decide) hok hT hk hL]
  have := seeK (kw := kw) hkw hok (pC_le hok k).2.2.1 (show 13 < 30 by decide)
  rw [show kwW 13 = 11 from rfl, show kwL 13 = SLEN.getD 11 0 from rfl] at this
  rw [this]; rfl
theorem rIs_12 (hkw : kwOK kw) (hok : okBt bt len) (hT : TKR bt len (tkS kw bt len) σ) (hk : Rk (tkS kw bt len) k) (hL : 1000 ≤ L) : FX11_is L (nI k) 12 σ = some (bI (decide (tkS kw bt len k = 14)), σ) := by
  rw [rIsT (by decide) hok hT hk hL]
  have := seeK (kw := kw) hkw hok (pC_le hok k).2.2.1 (show 14 < 30 by decide)
  rw [show kwW 14 = 12 from rfl, show kwL 14 = SLEN.getD 12 0 from rfl] at this
  rw [this]; rfl
theorem rIs_22 (hkw : kwOK kw) (hok : okBt bt len) (hT : TKR bt len (tkS kw bt len) σ) (hk : Rk (tkS kw bt len) k) (hL : 1000 ≤ L) : FX11_is L (nI k) 22 σ = some (bI (decide (tkS kw bt len k = 15)), σ) := by
  rw [rIsT (by decide) hok hT hk hL]
  have := seeK (kw := kw) hkw hok (pC_le hok k).2.2.1 (show 15 < 30 by decide)
  rw [show kwW 15 = 22 from rfl, show kwL 15 = SLEN.getD 22 0 from rfl] at this
  rw [this]; rfl
theorem rIs_20 (hkw : kwOK kw) (hok : okBt bt len) (hT : TKR bt len (tkS kw bt len) σ) (hk : Rk (tkS kw bt len) k) (hL : 1000 ≤ L) : FX11_is L (nI k) 20 σ = some (bI (decide (tkS kw bt len k = 16)), σ) := by
  rw [rIsT (by decide) hok hT hk hL]
  have := seeK (kw := kw) hkw hok (pC_le hok k).2.2.1 (show 16 < 30 by decide)
  rw [show kwW 16 = 20 from rfl, show kwL 16 = SLEN.getD 20 0 from rfl] at this
  rw [this]; rfl
theorem rIs_21 (hkw : kwOK kw) (hok : okBt bt len) (hT : TKR bt len (tkS kw bt len) σ) (hk : Rk (tkS kw bt len) k) (hL : 1000 ≤ L) : FX11_is L (nI k) 21 σ = some (bI (decide (tkS kw bt len k = 17)), σ) := by
  rw [rIsT (by decide) hok hT hk hL]
  have := seeK (kw := kw) hkw hok (pC_le hok k).2.2.1 (show 17 < 30 by decide)
  rw [show kwW 17 = 21 from rfl, show kwL 17 = SLEN.getD 21 0 from rfl] at this
  rw [this]; rfl
theorem rIs_34 (hkw : kwOK kw) (hok : okBt bt len) (hT : TKR bt len (tkS kw bt len) σ) (hk : Rk (tkS kw bt len) k) (hL : 1000 ≤ L) : FX11_is L (nI k) 34 σ = some (bI (decide (tkS kw bt len k = 18)), σ) := by
  rw [rIsT (by decide) hok hT hk hL]
  have := seeK (kw := kw) hkw hok (pC_le hok k).2.2.1 (show 18 < 30 by decide)
  rw [show kwW 18 = 34 from rfl, show kwL 18 = SLEN.getD 34 0 from rfl] at this
  rw [this]; rfl
theorem rIs_35 (hkw : kwOK kw) (hok : okBt bt len) (hT : TKR bt len (tkS kw bt len) σ) (hk : Rk (tkS kw bt len) k) (hL : 1000 ≤ L) : FX11_is L (nI k) 35 σ = some (bI (decide (tkS kw bt len k = 19)), σ) := by
  rw [rIsT (by decide) hok hT hk hL]
  have := seeK (kw := kw) hkw hok (pC_le hok k).2.2.1 (show 19 < 30 by decide)
  rw [show kwW 19 = 35 from rfl, show kwL 19 = SLEN.getD 35 0 from rfl] at this
  rw [this]; rfl
theorem rIs_36 (hkw : kwOK kw) (hok : okBt bt len) (hT : TKR bt len (tkS kw bt len) σ) (hk : Rk (tkS kw bt len) k) (hL : 1000 ≤ L) : FX11_is L (nI k) 36 σ = some (bI (decide (tkS kw bt len k = 20)), σ) := by
  rw [rIsT (by decide) hok hT hk hL]
  have := seeK (kw := kw) hkw hok (pC_le hok k).2.2.1 (show 20 < 30 by decide)
  rw [show kwW 20 = 36 from rfl, show kwL 20 = SLEN.getD 36 0 from rfl] at this
  rw [this]; rfl
theorem rIs_43 (hkw : kwOK kw) (hok : okBt bt len) (hT : TKR bt len (tkS kw bt len) σ) (hk : Rk (tkS kw bt len) k) (hL : 1000 ≤ L) : FX11_is L (nI k) 43 σ = some (bI (decide (tkS kw bt len k = 21)), σ) := by
  rw [rIsT (by decide) hok hT hk hL]
  have := seeK (kw := kw) hkw hok (pC_le hok k).2.2.1 (show 21 < 30 by decide)
  rw [show kwW 21 = 43 from rfl, show kwL 21 = SLEN.getD 43 0 from rfl] at this
  rw [this]; rfl
theorem rIs_44 (hkw : kwOK kw) (hok : okBt bt len) (hT : TKR bt len (tkS kw bt len) σ) (hk : Rk (tkS kw bt len) k) (hL : 1000 ≤ L) : FX11_is L (nI k) 44 σ = some (bI (decide (tkS kw bt len k = 22)), σ) := by
  rw [rIsT (by decide) hok hT hk hL]
  have := seeK (kw := kw) hkw hok (pC_le hok k).2.2.1 (show 22 < 30 by decide)
  rw [show kwW 22 = 44 from rfl, show kwL 22 = SLEN.getD 44 0 from rfl] at this
  rw [this]; rfl
theorem rIs_45 (hkw : kwOK kw) (hok : okBt bt len) (hT : TKR bt len (tkS kw bt len) σ) (hk : Rk (tkS kw bt len) k) (hL : 1000 ≤ L) : FX11_is L (nI k) 45 σ = some (bI (decide (tkS kw bt len k = 23)), σ) := by
  rw [rIsT (by decide) hok hT hk hL]
  have := seeK (kw := kw) hkw hok (pC_le hok k).2.2.1 (show 23 < 30 by decide)
  rw [show kwW 23 = 45 from rfl, show kwL 23 = SLEN.getD 45 0 from rfl] at this
  rw [this]; rfl
theorem rIs_46 (hkw : kwOK kw) (hok : okBt bt len) (hT : TKR bt len (tkS kw bt len) σ) (hk : Rk (tkS kw bt len) k) (hL : 1000 ≤ L) : FX11_is L (nI k) 46 σ = some (bI (decide (tkS kw bt len k = 24)), σ) := by
  rw [rIsT (by decide) hok hT hk hL]
  have := seeK (kw := kw) hkw hok (pC_le hok k).2.2.1 (show 24 < 30 by decide)
  rw [show kwW 24 = 46 from rfl, show kwL 24 = SLEN.getD 46 0 from rfl] at this
  rw [this]; rfl
theorem rIs_31 (hkw : kwOK kw) (hok : okBt bt len) (hT : TKR bt len (tkS kw bt len) σ) (hk : Rk (tkS kw bt len) k) (hL : 1000 ≤ L) : FX11_is L (nI k) 31 σ = some (bI (decide (tkS kw bt len k = 25)), σ) := by
  rw [rIsT (by decide) hok hT hk hL]
  have := seeK (kw := kw) hkw hok (pC_le hok k).2.2.1 (show 25 < 30 by decide)
  rw [show kwW 25 = 31 from rfl, show kwL 25 = SLEN.getD 31 0 from rfl] at this
  rw [this]; rfl
theorem rIs_33 (hkw : kwOK kw) (hok : okBt bt len) (hT : TKR bt len (tkS kw bt len) σ) (hk : Rk (tkS kw bt len) k) (hL : 1000 ≤ L) : FX11_is L (nI k) 33 σ = some (bI (decide (tkS kw bt len k = 26)), σ) := by
  rw [rIsT (by decide) hok hT hk hL]
  have := seeK (kw := kw) hkw hok (pC_le hok k).2.2.1 (show 26 < 30 by decide)
  rw [show kwW 26 = 33 from rfl, show kwL 26 = SLEN.getD 33 0 from rfl] at this
  rw [this]; rfl
theorem rIs_32 (hkw : kwOK kw) (hok : okBt bt len) (hT : TKR bt len (tkS kw bt len) σ) (hk : Rk (tkS kw bt len) k) (hL : 1000 ≤ L) : FX11_is L (nI k) 32 σ = some (bI (decide (tkS kw bt len k = 27)), σ) := by
  rw [rIsT (by decide) hok hT hk hL]
  have := seeK (kw := kw) hkw hok (pC_le hok k).2.2.1 (show 27 < 30 by decide)
  rw [show kwW 27 = 32 from rfl, show kwL 27 = SLEN.getD 32 0 from rfl] at this
  rw [this]; rfl
theorem rIs_27 (hkw : kwOK kw) (hok : okBt bt len) (hT : TKR bt len (tkS kw bt len) σ) (hk : Rk (tkS kw bt len) k) (hL : 1000 ≤ L) : FX11_is L (nI k) 27 σ = some (bI (decide (tkS kw bt len k = 28)), σ) := by
  rw [rIsT (by decide) hok hT hk hL]
  have := seeK (kw := kw) hkw hok (pC_le hok k).2.2.1 (show 28 < 30 by decide)
  rw [show kwW 28 = 27 from rfl, show kwL 28 = SLEN.getD 27 0 from rfl] at this
  rw [this]; rfl
theorem rIs_28 (hkw : kwOK kw) (hok : okBt bt len) (hT : TKR bt len (tkS kw bt len) σ) (hk : Rk (tkS kw bt len) k) (hL : 1000 ≤ L) : FX11_is L (nI k) 28 σ = some (bI (decide (tkS kw bt len k = 29)), σ) := by
  rw [rIsT (by decide) hok hT hk hL]
  have := seeK (kw := kw) hkw hok (pC_le hok k).2.2.1 (show 29 < 30 by decide)
  rw [show kwW 29 = 28 from rfl, show kwL 29 = SLEN.getD 28 0 from rfl] at this
  rw [this]; rfl
theorem rIs_2 (hok : okBt bt len) (hT : TKR bt len (tkS kw bt len) σ) (hk : Rk (tkS kw bt len) k) (hL : 1000 ≤ L) : FX11_is L (nI k) 2 σ = some (bI (decide (tkS kw bt len k = 44)), σ) := by
  rw [rIsT (by decide) hok hT hk hL, seeS1 (kw := kw) (ch := 61) (c := 44) hok (pC_le hok k).2.2.1 (by decide) (by decide) (by decide) (by decide) (by decide) (by decide) (by decide) s1v_2]; rfl
theorem rIs_3 (hok : okBt bt len) (hT : TKR bt len (tkS kw bt len) σ) (hk : Rk (tkS kw bt len) k) (hL : 1000 ≤ L) : FX11_is L (nI k) 3 σ = some (bI (decide (tkS kw bt len k = 40)), σ) := by
  rw [rIsT (by decide) hok hT hk hL, seeS1 (kw := kw) (ch := 45) (c := 40) hok (pC_le hok k).2.2.1 (by decide) (by decide) (by decide) (by decide) (by decide) (by decide) (by decide) s1v_3]; rfl
theorem rIs_4 (hok : okBt bt len) (hT : TKR bt len (tkS kw bt len) σ) (hk : Rk (tkS kw bt len) k) (hL : 1000 ≤ L) : FX11_is L (nI k) 4 σ = some (bI (decide (tkS kw bt len k = 36)), σ) := by
  rw [rIsT (by decide) hok hT hk hL, seeS1 (kw := kw) (ch := 59) (c := 36) hok (pC_le hok k).2.2.1 (by decide) (by decide) (by decide) (by decide) (by decide) (by decide) (by decide) s1v_4]; rfl
theorem rIs_9 (hok : okBt bt len) (hT : TKR bt len (tkS kw bt len) σ) (hk : Rk (tkS kw bt len) k) (hL : 1000 ≤ L) : FX11_is L (nI k) 9 σ = some (bI (decide (tkS kw bt len k = 37)), σ) := by
  rw [rIsT (by decide) hok hT hk hL, seeS1 (kw := kw) (ch := 58) (c := 37) hok (pC_le hok k).2.2.1 (by decide) (by decide) (by decide) (by decide) (by decide) (by decide) (by decide) s1v_9]; rfl
theorem rIs_15 (hok : okBt bt len) (hT : TKR bt len (tkS kw bt len) σ) (hk : Rk (tkS kw bt len) k) (hL : 1000 ≤ L) : FX11_is L (nI k) 15 σ = some (bI (decide (tkS kw bt len k = 34)), σ) := by
  rw [rIsT (by decide) hok hT hk hL, seeS1 (kw := kw) (ch := 91) (c := 34) hok (pC_le hok k).2.2.1 (by decide) (by decide) (by decide) (by decide) (by decide) (by decide) (by decide) s1v_15]; rfl
theorem rIs_17 (hok : okBt bt len) (hT : TKR bt len (tkS kw bt len) σ) (hk : Rk (tkS kw bt len) k) (hL : 1000 ≤ L) : FX11_is L (nI k) 17 σ = some (bI (decide (tkS kw bt len k = 35)), σ) := by
  rw [rIsT (by decide) hok hT hk hL, seeS1 (kw := kw) (ch := 93) (c := 35) hok (pC_le hok k).2.2.1 (by decide) (by decide) (by decide) (by decide) (by decide) (by decide) (by decide) s1v_17]; rfl
theorem rIs_18 (hok : okBt bt len) (hT : TKR bt len (tkS kw bt len) σ) (hk : Rk (tkS kw bt len) k) (hL : 1000 ≤ L) : FX11_is L (nI k) 18 σ = some (bI (decide (tkS kw bt len k = 32)), σ) := by
  rw [rIsT (by decide) hok hT hk hL, seeS1 (kw := kw) (ch := 123) (c := 32) hok (pC_le hok k).2.2.1 (by decide) (by decide) (by decide) (by decide) (by decide) (by decide) (by decide) s1v_18]; rfl
theorem rIs_19 (hok : okBt bt len) (hT : TKR bt len (tkS kw bt len) σ) (hk : Rk (tkS kw bt len) k) (hL : 1000 ≤ L) : FX11_is L (nI k) 19 σ = some (bI (decide (tkS kw bt len k = 33)), σ) := by
  rw [rIsT (by decide) hok hT hk hL, seeS1 (kw := kw) (ch := 125) (c := 33) hok (pC_le hok k).2.2.1 (by decide) (by decide) (by decide) (by decide) (by decide) (by decide) (by decide) s1v_19]; rfl
theorem rIs_23 (hok : okBt bt len) (hT : TKR bt len (tkS kw bt len) σ) (hk : Rk (tkS kw bt len) k) (hL : 1000 ≤ L) : FX11_is L (nI k) 23 σ = some (bI (decide (tkS kw bt len k = 39)), σ) := by
  rw [rIsT (by decide) hok hT hk hL, seeS1 (kw := kw) (ch := 43) (c := 39) hok (pC_le hok k).2.2.1 (by decide) (by decide) (by decide) (by decide) (by decide) (by decide) (by decide) s1v_23]; rfl
theorem rIs_24 (hok : okBt bt len) (hT : TKR bt len (tkS kw bt len) σ) (hk : Rk (tkS kw bt len) k) (hL : 1000 ≤ L) : FX11_is L (nI k) 24 σ = some (bI (decide (tkS kw bt len k = 41)), σ) := by
  rw [rIsT (by decide) hok hT hk hL, seeS1 (kw := kw) (ch := 42) (c := 41) hok (pC_le hok k).2.2.1 (by decide) (by decide) (by decide) (by decide) (by decide) (by decide) (by decide) s1v_24]; rfl
theorem rIs_25 (hok : okBt bt len) (hT : TKR bt len (tkS kw bt len) σ) (hk : Rk (tkS kw bt len) k) (hL : 1000 ≤ L) : FX11_is L (nI k) 25 σ = some (bI (decide (tkS kw bt len k = 42)), σ) := by
  rw [rIsT (by decide) hok hT hk hL, seeS1 (kw := kw) (ch := 47) (c := 42) hok (pC_le hok k).2.2.1 (by decide) (by decide) (by decide) (by decide) (by decide) (by decide) (by decide) s1v_25]; rfl
theorem rIs_26 (hok : okBt bt len) (hT : TKR bt len (tkS kw bt len) σ) (hk : Rk (tkS kw bt len) k) (hL : 1000 ≤ L) : FX11_is L (nI k) 26 σ = some (bI (decide (tkS kw bt len k = 43)), σ) := by
  rw [rIsT (by decide) hok hT hk hL, seeS1 (kw := kw) (ch := 37) (c := 43) hok (pC_le hok k).2.2.1 (by decide) (by decide) (by decide) (by decide) (by decide) (by decide) (by decide) s1v_26]; rfl
theorem rIs_29 (hok : okBt bt len) (hT : TKR bt len (tkS kw bt len) σ) (hk : Rk (tkS kw bt len) k) (hL : 1000 ≤ L) : FX11_is L (nI k) 29 σ = some (bI (decide (tkS kw bt len k = 30)), σ) := by
  rw [rIsT (by decide) hok hT hk hL, seeS1 (kw := kw) (ch := 40) (c := 30) hok (pC_le hok k).2.2.1 (by decide) (by decide) (by decide) (by decide) (by decide) (by decide) (by decide) s1v_29]; rfl
theorem rIs_30 (hok : okBt bt len) (hT : TKR bt len (tkS kw bt len) σ) (hk : Rk (tkS kw bt len) k) (hL : 1000 ≤ L) : FX11_is L (nI k) 30 σ = some (bI (decide (tkS kw bt len k = 31)), σ) := by
  rw [rIsT (by decide) hok hT hk hL, seeS1 (kw := kw) (ch := 41) (c := 31) hok (pC_le hok k).2.2.1 (by decide) (by decide) (by decide) (by decide) (by decide) (by decide) (by decide) s1v_30]; rfl
theorem rIs_48 (hok : okBt bt len) (hT : TKR bt len (tkS kw bt len) σ) (hk : Rk (tkS kw bt len) k) (hL : 1000 ≤ L) : FX11_is L (nI k) 48 σ = some (bI (decide (tkS kw bt len k = 46)), σ) := by
  rw [rIsT (by decide) hok hT hk hL, seeS1 (kw := kw) (ch := 60) (c := 46) hok (pC_le hok k).2.2.1 (by decide) (by decide) (by decide) (by decide) (by decide) (by decide) (by decide) s1v_48]; rfl
theorem rIs_49 (hok : okBt bt len) (hT : TKR bt len (tkS kw bt len) σ) (hk : Rk (tkS kw bt len) k) (hL : 1000 ≤ L) : FX11_is L (nI k) 49 σ = some (bI (decide (tkS kw bt len k = 47)), σ) := by
  rw [rIsT (by decide) hok hT hk hL, seeS1 (kw := kw) (ch := 62) (c := 47) hok (pC_le hok k).2.2.1 (by decide) (by decide) (by decide) (by decide) (by decide) (by decide) (by decide) s1v_49]; rfl
theorem rIs_6 (hok : okBt bt len) (hT : TKR bt len (tkS kw bt len) σ) (hk : Rk (tkS kw bt len) k) (hL : 1000 ≤ L) : FX11_is L (nI k) 6 σ = some (bI (decide (tkS kw bt len k = 38)), σ) := by
  rw [rIsT (by decide) hok hT hk hL, seeS2 (kw := kw) (ch := 58) (c9 := 61) (c := 38) hok (pC_le hok k).2.2.1 (by decide) (by decide) (by decide) (by decide) (by decide) (by decide) (fun x e => by have := s1_no2 (x := x); first | exact this.1 e | exact this.2.1 e | exact this.2.2.1 e | exact this.2.2.2.1 e | exact this.2.2.2.2 e) s2v_6]; rfl
theorem rIs_16 (hok : okBt bt len) (hT : TKR bt len (tkS kw bt len) σ) (hk : Rk (tkS kw bt len) k) (hL : 1000 ≤ L) : FX11_is L (nI k) 16 σ = some (bI (decide (tkS kw bt len k = 50)), σ) := by
  rw [rIsT (by decide) hok hT hk hL, seeS2 (kw := kw) (ch := 46) (c9 := 46) (c := 50) hok (pC_le hok k).2.2.1 (by decide) (by decide) (by decide) (by decide) (by decide) (by decide) (fun x e => by have := s1_no2 (x := x); first | exact this.1 e | exact this.2.1 e | exact this.2.2.1 e | exact this.2.2.2.1 e | exact this.2.2.2.2 e) s2v_16]; rfl
theorem rIs_47 (hok : okBt bt len) (hT : TKR bt len (tkS kw bt len) σ) (hk : Rk (tkS kw bt len) k) (hL : 1000 ≤ L) : FX11_is L (nI k) 47 σ = some (bI (decide (tkS kw bt len k = 45)), σ) := by
  rw [rIsT (by decide) hok hT hk hL, seeS2 (kw := kw) (ch := 60) (c9 := 62) (c := 45) hok (pC_le hok k).2.2.1 (by decide) (by decide) (by decide) (by decide) (by decide) (by decide) (fun x e => by have := s1_no2 (x := x); first | exact this.1 e | exact this.2.1 e | exact this.2.2.1 e | exact this.2.2.2.1 e | exact this.2.2.2.2 e) s2v_47]; rfl
theorem rIs_50 (hok : okBt bt len) (hT : TKR bt len (tkS kw bt len) σ) (hk : Rk (tkS kw bt len) k) (hL : 1000 ≤ L) : FX11_is L (nI k) 50 σ = some (bI (decide (tkS kw bt len k = 48)), σ) := by
  rw [rIsT (by decide) hok hT hk hL, seeS2 (kw := kw) (ch := 60) (c9 := 61) (c := 48) hok (pC_le hok k).2.2.1 (by decide) (by decide) (by decide) (by decide) (by decide) (by decide) (fun x e => by have := s1_no2 (x := x); first | exact this.1 e | exact this.2.1 e | exact this.2.2.1 e | exact this.2.2.2.1 e | exact this.2.2.2.2 e) s2v_50]; rfl
theorem rIs_51 (hok : okBt bt len) (hT : TKR bt len (tkS kw bt len) σ) (hk : Rk (tkS kw bt len) k) (hL : 1000 ≤ L) : FX11_is L (nI k) 51 σ = some (bI (decide (tkS kw bt len k = 49)), σ) := by
  rw [rIsT (by decide) hok hT hk hL, seeS2 (kw := kw) (ch := 62) (c9 := 61) (c := 49) hok (pC_le hok k).2.2.1 (by decide) (by decide) (by decide) (by decide) (by decide) (by decide) (fun x e => by have := s1_no2 (x := x); first | exact this.1 e | exact this.2.1 e | exact this.2.2.1 e | exact this.2.2.2.1 e | exact this.2.2.2.2 e) s2v_51]; rfl
end TF
