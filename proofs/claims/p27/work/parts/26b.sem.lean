-- what a part of a formula or an expression is, at each step of a history: times and signals
abbrev Hs : Type := (Nat → Int32) × (Nat → Nat → Int64)
def wiV (lo hi : Int32) (t : Nat → Int32) (j i : Nat) : Bool := decide (hi = -1) || (decide (¬ (t i - t j) < lo) && decide (¬ hi < (t i - t j)))
def b2l (b : Bool) : Int64 := if b then 1 else 0
def nzV (x : Int64) : Bool := decide (x ≠ 0)
def onV (lo hi : Int32) (t : Nat → Int32) (A : Nat → Int64) (i : Nat) : Nat → Bool
  | 0 => false
  | n+1 => onV lo hi t A i n || (nzV (A n) && wiV lo hi t n i)
/-- the first step below n at which it is missed -/
def miV (lo hi : Int32) (t : Nat → Int32) (A : Nat → Int64) (i : Nat) : Nat → Option Nat
  | 0 => none
  | n+1 => match miV lo hi t A i n with
    | some j => some j
    | none => if (!nzV (A n) && wiV lo hi t n i) then some n else none
def siV (lo hi : Int32) (t : Nat → Int32) (A B : Nat → Int64) (i : Nat) : Nat → Bool
  | 0 => false
  | n+1 => (nzV (B n) && wiV lo hi t n i) || (nzV (A n) && siV lo hi t A B i n)
def laV (A : Nat → Int64) : Nat → Option Nat
  | 0 => none
  | n+1 => if nzV (A n) then some n else laV A n
def suV (A : Nat → Int64) : Nat → Int64
  | 0 => 0
  | n+1 => suV A n + A n
def mxV (A : Nat → Int64) : Nat → Int64
  | 0 => A 0
  | n+1 => if A (n + 1) < mxV A n then mxV A n else A (n + 1)
def mnV (A : Nat → Int64) : Nat → Int64
  | 0 => A 0
  | n+1 => if A (n + 1) < mnV A n then A (n + 1) else mnV A n
def cmpV (th : Int32) (x y : Int64) : Bool := if th = 0 then decide (x = y) else if th = 1 then decide (x ≠ y) else if th = 2 then decide (x < y) else if th = 3 then decide (y < x) else if th = 4 then decide (¬ y < x) else decide (¬ x < y)
def binV (th : Int32) (x y : Int64) : Int64 := if th ≤ 2 then (if th = 0 then x + y else if th = 1 then x - y else x * y) else if y = 0 then 0 else if th = 3 then x / y else x - x / y * y
/-- a part's worth at a step, out of its own numbers and its operands' worths: the sorts are the reference's -/
def opV (kd a lo hi th : Int32) (h : Hs) (A B C : Nat → Int64) (i : Nat) : Int64 :=
  if kd = 0 then b2l (!nzV (A i))
  else if kd = 1 then b2l (decide (0 < i) && nzV (A (i - 1)))
  else if kd = 2 then b2l (nzV (A i) && (decide (i = 0) || !nzV (A (i - 1))))
  else if kd = 3 then b2l (!nzV (A i) && (decide (0 < i) && nzV (A (i - 1))))
  else if kd = 4 then b2l (onV lo hi h.1 A i (i + 1))
  else if kd = 5 then b2l (miV lo hi h.1 A i (i + 1)).isNone
  else if kd = 6 then 1
  else if kd = 7 then 0
  else if kd = 8 then b2l (nzV (A i))
  else if kd = 9 then b2l (cmpV th (A i) (B i))
  else if kd = 10 then b2l (siV lo hi h.1 A B i (i + 1))
  else if kd = 11 then b2l (nzV (A i) && nzV (B i))
  else if kd = 12 then b2l (nzV (A i) || nzV (B i))
  else if kd = 13 then b2l (!nzV (A i) || nzV (B i))
  else if kd = 20 then a.toInt64
  else if kd = 21 then h.2 a.toNatClampNeg i
  else if kd = 22 then A i
  else if kd = 23 then (h.1 i).toInt64
  else if kd = 24 then (nI i).toInt64
  else if kd = 25 then -(A i)
  else if kd = 26 then (if i = 0 then 0 else A (i - 1))
  else if kd = 27 then mxV A i
  else if kd = 28 then mnV A i
  else if kd = 29 then suV A (i + 1)
  else if kd = 30 then suV A (i + 1)
  else if kd = 31 then (match laV A (i + 1) with | none => -1 | some j => (h.1 i - h.1 j).toInt64)
  else if kd = 32 then (match laV A (i + 1) with | none => 0 | some j => B j)
  else if kd = 33 then (if nzV (A i) then B i else C i)
  else binV th (A i) (B i)
/-- tables of parts: sort, first, second, third, low, high -/
abbrev NT : Type := Nat → Int32 × Int32 × Int32 × Int32 × Int32 × Int32
def valV (T : NT) (h : Hs) : Nat → Nat → Nat → Int64
  | 0, _ => fun _ => 0
  | k+1, n => opV (T n).1 (T n).2.1 (T n).2.2.2.2.1 (T n).2.2.2.2.2 (T n).2.2.2.1 h (valV T h k (T n).2.1.toNatClampNeg) (valV T h k (T n).2.2.1.toNatClampNeg) (valV T h k (T n).2.2.2.1.toNatClampNeg)
/-- which operands a sort looks at -/
def us1 (kd : Int32) : Bool := !(decide (kd = 6) || decide (kd = 7) || decide (kd = 20) || decide (kd = 21) || decide (kd = 23) || decide (kd = 24))
def us2 (kd : Int32) : Bool := decide (kd = 9) || decide (kd = 10) || decide (kd = 11) || decide (kd = 12) || decide (kd = 13) || decide (kd = 32) || decide (kd = 33) || decide (kd = 34)
def us3 (kd : Int32) : Bool := decide (kd = 33)
def isK (kd : Int32) : Bool := decide (kd = 0) || decide (kd = 1) || decide (kd = 2) || decide (kd = 3) || decide (kd = 4) || decide (kd = 5) || decide (kd = 6) || decide (kd = 7) || decide (kd = 8) || decide (kd = 9) || decide (kd = 10) || decide (kd = 11) || decide (kd = 12) || decide (kd = 13) || decide (kd = 20) || decide (kd = 21) || decide (kd = 22) || decide (kd = 23) || decide (kd = 24) || decide (kd = 25) || decide (kd = 26) || decide (kd = 27) || decide (kd = 28) || decide (kd = 29) || decide (kd = 30) || decide (kd = 31) || decide (kd = 32) || decide (kd = 33) || decide (kd = 34)

def hC (h h' : Hs) (i : Nat) : Prop := ∀ j, j ≤ i → h.1 j = h'.1 j ∧ ∀ k, h.2 k j = h'.2 k j
theorem hC.refl {h : Hs} {i : Nat} : hC h h i := fun _ _ => ⟨rfl, fun _ => rfl⟩
theorem hC.le {h h' : Hs} {i j : Nat} (H : hC h h' i) (hj : j ≤ i) : hC h h' j := fun k hk => H k (Nat.le_trans hk hj)
theorem wiV_congr {lo hi : Int32} {t t' : Nat → Int32} {i j : Nat} (h1 : t i = t' i) (h2 : t j = t' j) : wiV lo hi t j i = wiV lo hi t' j i := by unfold wiV; rw [h1, h2]
theorem onV_congr {lo hi : Int32} {t t' : Nat → Int32} {A A' : Nat → Int64} {i : Nat} (ht : ∀ j, j ≤ i → t j = t' j) : ∀ n, n ≤ i + 1 → (∀ j, j < n → A j = A' j) → onV lo hi t A i n = onV lo hi t' A' i n
  | 0, _, _ => rfl
  | n+1, hn, h => by rw [onV, onV, onV_congr ht n (by omega) (fun j hj => h j (by omega)), h n (by omega), wiV_congr (ht i (Nat.le_refl _)) (ht n (by omega))]
theorem miV_congr {lo hi : Int32} {t t' : Nat → Int32} {A A' : Nat → Int64} {i : Nat} (ht : ∀ j, j ≤ i → t j = t' j) : ∀ n, n ≤ i + 1 → (∀ j, j < n → A j = A' j) → miV lo hi t A i n = miV lo hi t' A' i n
  | 0, _, _ => rfl
  | n+1, hn, h => by rw [miV, miV, miV_congr ht n (by omega) (fun j hj => h j (by omega)), h n (by omega), wiV_congr (ht i (Nat.le_refl _)) (ht n (by omega))]
theorem siV_congr {lo hi : Int32} {t t' : Nat → Int32} {A A' B B' : Nat → Int64} {i : Nat} (ht : ∀ j, j ≤ i → t j = t' j) : ∀ n, n ≤ i + 1 → (∀ j, j < n → A j = A' j) → (∀ j, j < n → B j = B' j) → siV lo hi t A B i n = siV lo hi t' A' B' i n
  | 0, _, _, _ => rfl
  | n+1, hn, h, h2 => by rw [siV, siV, siV_congr ht n (by omega) (fun j hj => h j (by omega)) (fun j hj => h2 j (by omega)), h n (by omega), h2 n (by omega), wiV_congr (ht i (Nat.le_refl _)) (ht n (by omega))]
theorem laV_congr {A A' : Nat → Int64} : ∀ n, (∀ j, j < n → A j = A' j) → laV A n = laV A' n
  | 0, _ => rfl
  | n+1, h => by rw [laV, laV, laV_congr n (fun j hj => h j (by omega)), h n (by omega)]
theorem laV_lt {A : Nat → Int64} : ∀ (n : Nat) {j : Nat}, laV A n = some j → j < n
  | 0, _, h => by cases h
  | n+1, j, h => by
    rw [laV] at h
    split at h
    · cases h; omega
    · have := laV_lt n h; omega
theorem suV_congr {A A' : Nat → Int64} : ∀ n, (∀ j, j < n → A j = A' j) → suV A n = suV A' n
  | 0, _ => rfl
  | n+1, h => by rw [suV, suV, suV_congr n (fun j hj => h j (by omega)), h n (by omega)]
theorem mxV_congr {A A' : Nat → Int64} : ∀ n, (∀ j, j ≤ n → A j = A' j) → mxV A n = mxV A' n
  | 0, h => h 0 (Nat.le_refl _)
  | n+1, h => by rw [mxV, mxV, mxV_congr n (fun j hj => h j (by omega)), h (n + 1) (by omega)]
theorem mnV_congr {A A' : Nat → Int64} : ∀ n, (∀ j, j ≤ n → A j = A' j) → mnV A n = mnV A' n
  | 0, h => h 0 (Nat.le_refl _)
  | n+1, h => by rw [mnV, mnV, mnV_congr n (fun j hj => h j (by omega)), h (n + 1) (by omega)]
theorem laV_holds {A : Nat → Int64} : ∀ (n : Nat) {j : Nat}, laV A n = some j → nzV (A j) = true
  | 0, _, h => by cases h
  | n+1, j, h => by
    rw [laV] at h
    split at h
    · next hn => cases h; exact hn
    · exact laV_holds n h
theorem miV_lt {lo hi : Int32} {t : Nat → Int32} {A : Nat → Int64} {i : Nat} : ∀ (n : Nat) {j : Nat}, miV lo hi t A i n = some j → j < n
  | 0, _, h => by cases h
  | n+1, j, h => by
    rw [miV] at h
    split at h
    · next j' e => cases h; have := miV_lt n e; omega
    · split at h
      · cases h; omega
      · cases h
theorem miV_zero {lo hi : Int32} {t : Nat → Int32} {A : Nat → Int64} {i : Nat} : ∀ (n : Nat) {j : Nat}, miV lo hi t A i n = some j → A j = 0
  | 0, _, h => by cases h
  | n+1, j, h => by
    rw [miV] at h
    split at h
    · next j' e => cases h; exact miV_zero n e
    · split at h
      · next hn => cases h; simpa [nzV] using (Bool.and_eq_true_iff.mp hn).1
      · cases h
/-- a worth looks at what it is said to look at, up to its step -/
theorem opV_congr {kd a lo hi th : Int32} {h h' : Hs} {A B C A' B' C' : Nat → Int64} {i : Nat} (hk : isK kd = true) (hh : hC h h' i) (h1 : us1 kd = true → ∀ j, j ≤ i → A j = A' j) (h2 : us2 kd = true → ∀ j, j ≤ i → B j = B' j) (h3 : us3 kd = true → ∀ j, j ≤ i → C j = C' j) : opV kd a lo hi th h A B C i = opV kd a lo hi th h' A' B' C' i := by
  have ht : ∀ j, j ≤ i → h.1 j = h'.1 j := fun j hj => (hh j hj).1
  simp only [isK, Bool.or_eq_true, decide_eq_true_eq] at hk
  rcases hk with (((((((((((((((((((((((((((rfl|rfl)|rfl)|rfl)|rfl)|rfl)|rfl)|rfl)|rfl)|rfl)|rfl)|rfl)|rfl)|rfl)|rfl)|rfl)|rfl)|rfl)|rfl)|rfl)|rfl)|rfl)|rfl)|rfl)|rfl)|rfl)|rfl)|rfl)|rfl
  · have := h1 (by decide) i (Nat.le_refl _); simp [opV, this]
  · have := h1 (by decide) (i - 1) (by omega); simp [opV, this]
  · have e1 := h1 (by decide) i (Nat.le_refl _); have e2 := h1 (by decide) (i - 1) (by omega); simp [opV, e1, e2]
  · have e1 := h1 (by decide) i (Nat.le_refl _); have e2 := h1 (by decide) (i - 1) (by omega); simp [opV, e1, e2]
  · have e := onV_congr (lo := lo) (hi := hi) ht (i + 1) (Nat.le_refl _) (fun j hj => h1 (by decide) j (by omega)); simp [opV, e]
  · have e := miV_congr (lo := lo) (hi := hi) ht (i + 1) (Nat.le_refl _) (fun j hj => h1 (by decide) j (by omega)); simp [opV, e]
  · simp [opV]
  · simp [opV]
  · have := h1 (by decide) i (Nat.le_refl _); simp [opV, this]
  · have e1 := h1 (by decide) i (Nat.le_refl _); have e2 := h2 (by decide) i (Nat.le_refl _); simp [opV, e1, e2]
  · have e := siV_congr (lo := lo) (hi := hi) ht (i + 1) (Nat.le_refl _) (fun j hj => h1 (by decide) j (by omega)) (fun j hj => h2 (by decide) j (by omega)); simp [opV, e]
  · have e1 := h1 (by decide) i (Nat.le_refl _); have e2 := h2 (by decide) i (Nat.le_refl _); simp [opV, e1, e2]
  · have e1 := h1 (by decide) i (Nat.le_refl _); have e2 := h2 (by decide) i (Nat.le_refl _); simp [opV, e1, e2]
  · have e1 := h1 (by decide) i (Nat.le_refl _); have e2 := h2 (by decide) i (Nat.le_refl _); simp [opV, e1, e2]
  · simp [opV]
  · have := (hh i (Nat.le_refl _)).2 a.toNatClampNeg; simp [opV, this]
  · have := h1 (by decide) i (Nat.le_refl _); simp [opV, this]
  · have := ht i (Nat.le_refl _); simp [opV, this]
  · simp [opV]
  · have := h1 (by decide) i (Nat.le_refl _); simp [opV, this]
  · have := h1 (by decide) (i - 1) (by omega); simp [opV, this]
  · have e := mxV_congr i (fun j hj => h1 (by decide) j hj); simp [opV, e]
  · have e := mnV_congr i (fun j hj => h1 (by decide) j hj); simp [opV, e]
  · have e := suV_congr (i + 1) (fun j hj => h1 (by decide) j (by omega)); simp [opV, e]
  · have e := suV_congr (i + 1) (fun j hj => h1 (by decide) j (by omega)); simp [opV, e]
  · have e := laV_congr (i + 1) (fun j hj => h1 (by decide) j (by omega))
    have eti := ht i (Nat.le_refl _)
    simp only [opV]
    rw [e]
    cases hl : laV A' (i + 1) with
    | none => simp
    | some j =>
      have := laV_lt _ hl
      have e2 := ht j (by omega)
      simp [e2, eti]
  · have e := laV_congr (i + 1) (fun j hj => h1 (by decide) j (by omega))
    simp only [opV]
    rw [e]
    cases hl : laV A' (i + 1) with
    | none => simp
    | some j =>
      have := laV_lt _ hl
      have e2 := h2 (by decide) j (by omega)
      simp [e2]
  · have e1 := h1 (by decide) i (Nat.le_refl _); have e2 := h2 (by decide) i (Nat.le_refl _); have e3 := h3 (by decide) i (Nat.le_refl _); simp [opV, e1, e2, e3]
  · have e1 := h1 (by decide) i (Nat.le_refl _); have e2 := h2 (by decide) i (Nat.le_refl _); simp [opV, e1, e2]
abbrev NR : Type := Int32 × Int32 × Int32 × Int32 × Int32 × Int32
/-- a part's operands stand ahead of it, among the parts that count -/
def okN (V : Nat → Prop) (r : NR) (n : Nat) : Prop := isK r.1 = true ∧ (us1 r.1 = true → ∃ m, V m ∧ m < n ∧ r.2.1 = nI m) ∧ (us2 r.1 = true → ∃ m, V m ∧ m < n ∧ r.2.2.1 = nI m) ∧ (us3 r.1 = true → ∃ m, V m ∧ m < n ∧ r.2.2.2.1 = nI m) ∧ (r.1 = 21 → ∃ m, m < 8 ∧ r.2.1 = nI m)
/-- a table of parts that is right -/
def okT (V : Nat → Prop) (T : NT) : Prop := ∀ n, V n → n < 2000 ∧ okN V (T n) n
theorem okN.mono {V V' : Nat → Prop} {r : NR} {n : Nat} (h : okN V r n) (hV : ∀ m, V m → V' m) : okN V' r n := by
  obtain ⟨h0, h1, h2, h3, h4⟩ := h
  refine ⟨h0, fun u => ?_, fun u => ?_, fun u => ?_, h4⟩
  · obtain ⟨m, hm, hl, e⟩ := h1 u; exact ⟨m, hV m hm, hl, e⟩
  · obtain ⟨m, hm, hl, e⟩ := h2 u; exact ⟨m, hV m hm, hl, e⟩
  · obtain ⟨m, hm, hl, e⟩ := h3 u; exact ⟨m, hV m hm, hl, e⟩
/-- enough depth is enough -/
theorem valV_fuel {T : NT} {h : Hs} {V : Nat → Prop} (hT : okT V T) : ∀ (n k k2 : Nat), V n → n < k → n < k2 → valV T h k n = valV T h k2 n := by
  intro n
  induction n using Nat.strongRecOn with
  | _ n ih =>
    intro k k2 hn hk hk2
    obtain ⟨k, rfl⟩ : ∃ z, k = z + 1 := ⟨k - 1, by omega⟩
    obtain ⟨k2, rfl⟩ : ∃ z, k2 = z + 1 := ⟨k2 - 1, by omega⟩
    obtain ⟨hN, h0, h1, h2, h3, -⟩ := hT n hn
    funext i
    rw [valV, valV]
    refine opV_congr h0 hC.refl (fun u j _ => ?_) (fun u j _ => ?_) (fun u j _ => ?_)
    · obtain ⟨m, hv, hm, e⟩ := h1 u
      rw [e, nI_clamp (by omega), ih m hm k k2 hv (by omega) (by omega)]
    · obtain ⟨m, hv, hm, e⟩ := h2 u
      rw [e, nI_clamp (by omega), ih m hm k k2 hv (by omega) (by omega)]
    · obtain ⟨m, hv, hm, e⟩ := h3 u
      rw [e, nI_clamp (by omega), ih m hm k k2 hv (by omega) (by omega)]
def vaN (T : NT) (h : Hs) (n : Nat) : Nat → Int64 := valV T h (n + 1) n
/-- a part's worth out of its operands' -/
theorem vaN_eq {T : NT} {h : Hs} {V : Nat → Prop} {n : Nat} (hT : okT V T) (hn : V n) : vaN T h n = opV (T n).1 (T n).2.1 (T n).2.2.2.2.1 (T n).2.2.2.2.2 (T n).2.2.2.1 h (vaN T h (T n).2.1.toNatClampNeg) (vaN T h (T n).2.2.1.toNatClampNeg) (vaN T h (T n).2.2.2.1.toNatClampNeg) := by
  obtain ⟨hN, h0, h1, h2, h3, -⟩ := hT n hn
  funext i
  rw [vaN, valV]
  refine opV_congr h0 hC.refl (fun u j _ => ?_) (fun u j _ => ?_) (fun u j _ => ?_)
  · obtain ⟨m, hv, hm, e⟩ := h1 u
    rw [e, nI_clamp (by omega), vaN, valV_fuel hT m n (m + 1) hv (by omega) (by omega)]
  · obtain ⟨m, hv, hm, e⟩ := h2 u
    rw [e, nI_clamp (by omega), vaN, valV_fuel hT m n (m + 1) hv (by omega) (by omega)]
  · obtain ⟨m, hv, hm, e⟩ := h3 u
    rw [e, nI_clamp (by omega), vaN, valV_fuel hT m n (m + 1) hv (by omega) (by omega)]
/-- tables that are the same at what counts, and histories that are the same up to a step, give the same worths there -/
theorem vaN_same {T T' : NT} {h h' : Hs} {V : Nat → Prop} (hT : okT V T) (he : ∀ n, V n → T' n = T n) : ∀ (n i : Nat), V n → hC h' h i → vaN T' h' n i = vaN T h n i := by
  have hT' : okT V T' := fun n hn => ⟨(hT n hn).1, by rw [he n hn]; exact (hT n hn).2⟩
  intro n
  induction n using Nat.strongRecOn with
  | _ n ih =>
    intro i hn hh
    obtain ⟨hN, h0, h1, h2, h3, -⟩ := hT n hn
    rw [vaN_eq hT hn, vaN_eq hT' hn, he n hn]
    refine opV_congr h0 hh (fun u j hj => ?_) (fun u j hj => ?_) (fun u j hj => ?_)
    · obtain ⟨m, hv, hm, e⟩ := h1 u
      rw [e, nI_clamp (by omega)]; exact ih m hm j hv (hh.le hj)
    · obtain ⟨m, hv, hm, e⟩ := h2 u
      rw [e, nI_clamp (by omega)]; exact ih m hm j hv (hh.le hj)
    · obtain ⟨m, hv, hm, e⟩ := h3 u
      rw [e, nI_clamp (by omega)]; exact ih m hm j hv (hh.le hj)
theorem vaN_table {T T' : NT} {h : Hs} {V : Nat → Prop} {n : Nat} (hT : okT V T) (he : ∀ n, V n → T' n = T n) (hn : V n) : vaN T' h n = vaN T h n := by
  funext i; exact vaN_same hT he n i hn hC.refl
-- where and when the reason stands why a part does not hold
abbrev Rz : Type := Hs → Nat → Int32 × Int32
abbrev Vl : Type := Hs → Nat → Int64
abbrev Den : Type := Vl × Rz
def opR (kd lo hi pl : Int32) (h : Hs) (A : Nat → Int64) (ra rb : Nat → Int32 × Int32) (i : Nat) : Int32 × Int32 :=
  if kd = 11 then (if nzV (A i) then rb i else ra i)
  else if kd = 12 then rb i
  else if kd = 13 then rb i
  else if kd = 5 then (match miV lo hi h.1 A i (i + 1) with | some j => ra j | none => (pl, nI i))
  else if kd = 8 then ra i
  else if kd = 1 then (if i = 0 then (pl, nI i) else ra (i - 1))
  else (pl, nI i)
def reaV (T : NT) (P : Nat → Int32) (h : Hs) : Nat → Nat → Nat → Int32 × Int32
  | 0, _ => fun i => (0, nI i)
  | k+1, n => opR (T n).1 (T n).2.2.2.2.1 (T n).2.2.2.2.2 (P n) h (vaN T h (T n).2.1.toNatClampNeg) (reaV T P h k (T n).2.1.toNatClampNeg) (reaV T P h k (T n).2.2.1.toNatClampNeg)
theorem opR_congr {kd lo hi pl : Int32} {h h' : Hs} {A A' : Nat → Int64} {ra rb ra' rb' : Nat → Int32 × Int32} {i : Nat} (hh : hC h h' i) (h1 : us1 kd = true → ∀ j, j ≤ i → A j = A' j ∧ ra j = ra' j) (h2 : us2 kd = true → ∀ j, j ≤ i → rb j = rb' j) : opR kd lo hi pl h A ra rb i = opR kd lo hi pl h' A' ra' rb' i := by
  unfold opR
  by_cases k1 : kd = 11
  · subst k1; rw [if_pos rfl, if_pos rfl, (h1 (by decide) i (Nat.le_refl _)).1, (h1 (by decide) i (Nat.le_refl _)).2, h2 (by decide) i (Nat.le_refl _)]
  rw [if_neg k1, if_neg k1]
  by_cases k2 : kd = 12
  · subst k2; rw [if_pos rfl, if_pos rfl, h2 (by decide) i (Nat.le_refl _)]
  rw [if_neg k2, if_neg k2]
  by_cases k3 : kd = 13
  · subst k3; rw [if_pos rfl, if_pos rfl, h2 (by decide) i (Nat.le_refl _)]
  rw [if_neg k3, if_neg k3]
  by_cases k4 : kd = 5
  · subst k4
    rw [if_pos rfl, if_pos rfl, miV_congr (fun j hj => (hh j hj).1) (i + 1) (Nat.le_refl _) (fun j hj => (h1 (by decide) j (by omega)).1)]
    cases e : miV lo hi h'.1 A' i (i + 1) with
    | none => rfl
    | some j => have := miV_lt _ e; exact (h1 (by decide) j (by omega)).2
  rw [if_neg k4, if_neg k4]
  by_cases k5 : kd = 8
  · subst k5; rw [if_pos rfl, if_pos rfl, (h1 (by decide) i (Nat.le_refl _)).2]
  rw [if_neg k5, if_neg k5]
  by_cases k6 : kd = 1
  · subst k6; rw [if_pos rfl, if_pos rfl, (h1 (by decide) (i - 1) (by omega)).2]
  rw [if_neg k6, if_neg k6]
theorem reaV_fuel {T : NT} {P : Nat → Int32} {h : Hs} {V : Nat → Prop} (hT : okT V T) : ∀ (n k k2 : Nat), V n → n < k → n < k2 → reaV T P h k n = reaV T P h k2 n := by
  intro n
  induction n using Nat.strongRecOn with
  | _ n ih =>
    intro k k2 hn hk hk2
    obtain ⟨k, rfl⟩ : ∃ z, k = z + 1 := ⟨k - 1, by omega⟩
    obtain ⟨k2, rfl⟩ : ∃ z, k2 = z + 1 := ⟨k2 - 1, by omega⟩
    obtain ⟨hN, h0, h1, h2, h3, -⟩ := hT n hn
    funext i
    rw [reaV, reaV]
    refine opR_congr hC.refl (fun u j _ => ⟨rfl, ?_⟩) (fun u j _ => ?_)
    · obtain ⟨m, hv, hm, e⟩ := h1 u
      rw [e, nI_clamp (by omega), ih m hm k k2 hv (by omega) (by omega)]
    · obtain ⟨m, hv, hm, e⟩ := h2 u
      rw [e, nI_clamp (by omega), ih m hm k k2 hv (by omega) (by omega)]
def reN (T : NT) (P : Nat → Int32) (h : Hs) (n : Nat) : Nat → Int32 × Int32 := reaV T P h (n + 1) n
theorem reN_eq {T : NT} {P : Nat → Int32} {h : Hs} {V : Nat → Prop} {n : Nat} (hT : okT V T) (hn : V n) : reN T P h n = opR (T n).1 (T n).2.2.2.2.1 (T n).2.2.2.2.2 (P n) h (vaN T h (T n).2.1.toNatClampNeg) (reN T P h (T n).2.1.toNatClampNeg) (reN T P h (T n).2.2.1.toNatClampNeg) := by
  obtain ⟨hN, h0, h1, h2, h3, -⟩ := hT n hn
  funext i
  rw [reN, reaV]
  refine opR_congr hC.refl (fun u j _ => ⟨rfl, ?_⟩) (fun u j _ => ?_)
  · obtain ⟨m, hv, hm, e⟩ := h1 u
    rw [e, nI_clamp (by omega), reN, reaV_fuel hT m n (m + 1) hv (by omega) (by omega)]
  · obtain ⟨m, hv, hm, e⟩ := h2 u
    rw [e, nI_clamp (by omega), reN, reaV_fuel hT m n (m + 1) hv (by omega) (by omega)]
theorem reN_same {T T' : NT} {P P' : Nat → Int32} {h h' : Hs} {V : Nat → Prop} (hT : okT V T) (he : ∀ n, V n → T' n = T n ∧ P' n = P n) : ∀ (n i : Nat), V n → hC h' h i → reN T' P' h' n i = reN T P h n i := by
  have hT' : okT V T' := fun n hn => ⟨(hT n hn).1, by rw [(he n hn).1]; exact (hT n hn).2⟩
  intro n
  induction n using Nat.strongRecOn with
  | _ n ih =>
    intro i hn hh
    obtain ⟨hN, h0, h1, h2, h3, -⟩ := hT n hn
    rw [reN_eq hT hn, reN_eq hT' hn, (he n hn).1, (he n hn).2]
    refine opR_congr hh (fun u j hj => ⟨?_, ?_⟩) (fun u j hj => ?_)
    · obtain ⟨m, hv, hm, e⟩ := h1 u
      rw [e, nI_clamp (by omega)]; exact vaN_same hT (fun n hn => (he n hn).1) m j hv (hh.le hj)
    · obtain ⟨m, hv, hm, e⟩ := h1 u
      rw [e, nI_clamp (by omega)]; exact ih m hm j hv (hh.le hj)
    · obtain ⟨m, hv, hm, e⟩ := h2 u
      rw [e, nI_clamp (by omega)]; exact ih m hm j hv (hh.le hj)
theorem reN_table {T T' : NT} {P P' : Nat → Int32} {h : Hs} {V : Nat → Prop} {n : Nat} (hT : okT V T) (he : ∀ n, V n → T' n = T n ∧ P' n = P n) (hn : V n) : reN T' P' h n = reN T P h n := by
  funext i; exact reN_same hT he n i hn hC.refl
/-- what a part means: its worth, and where the reason stands -/
def dnV (T : NT) (n : Nat) : Vl := fun h => vaN T h n
def dnR (T : NT) (P : Nat → Int32) (n : Nat) : Rz := fun h => reN T P h n
theorem dnV_table {T T' : NT} {V : Nat → Prop} {n : Nat} (hT : okT V T) (he : ∀ n, V n → T' n = T n) (hn : V n) : dnV T' n = dnV T n := by
  funext h; exact vaN_table hT he hn
theorem dnR_table {T T' : NT} {P P' : Nat → Int32} {V : Nat → Prop} {n : Nat} (hT : okT V T) (he : ∀ n, V n → T' n = T n ∧ P' n = P n) (hn : V n) : dnR T' P' n = dnR T P n := by
  funext h; exact reN_table hT he hn
/-- an operator over meanings -/
def oV (kd a lo hi th : Int32) (A B C : Vl) : Vl := fun h => opV kd a lo hi th h (A h) (B h) (C h)
def oR (kd lo hi pl : Int32) (A : Vl) (ra rb : Rz) : Rz := fun h => opR kd lo hi pl h (A h) (ra h) (rb h)
theorem dnV_eq {T : NT} {V : Nat → Prop} {n : Nat} (hT : okT V T) (hn : V n) : dnV T n = oV (T n).1 (T n).2.1 (T n).2.2.2.2.1 (T n).2.2.2.2.2 (T n).2.2.2.1 (dnV T (T n).2.1.toNatClampNeg) (dnV T (T n).2.2.1.toNatClampNeg) (dnV T (T n).2.2.2.1.toNatClampNeg) := by
  funext h; exact vaN_eq hT hn
theorem dnR_eq {T : NT} {P : Nat → Int32} {V : Nat → Prop} {n : Nat} (hT : okT V T) (hn : V n) : dnR T P n = oR (T n).1 (T n).2.2.2.2.1 (T n).2.2.2.2.2 (P n) (dnV T (T n).2.1.toNatClampNeg) (dnR T P (T n).2.1.toNatClampNeg) (dnR T P (T n).2.2.1.toNatClampNeg) := by
  funext h; exact reN_eq hT hn
theorem opV_norm {kd a a' lo lo' hi hi' th th' : Int32} {h : Hs} {A B C : Nat → Int64} {i : Nat} (hk : isK kd = true) (ha : kd = 20 ∨ kd = 21 → a = a') (hb : kd = 4 ∨ kd = 5 ∨ kd = 10 → lo = lo' ∧ hi = hi') (ht : kd = 9 ∨ kd = 34 → th = th') : opV kd a lo hi th h A B C i = opV kd a' lo' hi' th' h A B C i := by
  simp only [isK, Bool.or_eq_true, decide_eq_true_eq] at hk
  rcases hk with (((((((((((((((((((((((((((rfl|rfl)|rfl)|rfl)|rfl)|rfl)|rfl)|rfl)|rfl)|rfl)|rfl)|rfl)|rfl)|rfl)|rfl)|rfl)|rfl)|rfl)|rfl)|rfl)|rfl)|rfl)|rfl)|rfl)|rfl)|rfl)|rfl)|rfl)|rfl
  all_goals first
    | (simp [opV]; done)
    | (obtain ⟨e1, e2⟩ := hb (by decide); subst e1; subst e2; simp [opV]; done)
    | (have e1 := ha (by decide); subst e1; simp [opV]; done)
    | (have e1 := ht (by decide); subst e1; simp [opV]; done)
theorem oV_congr {kd a a' lo lo' hi hi' th th' : Int32} {A B C A' B' C' : Vl} (hk : isK kd = true) (ha : kd = 20 ∨ kd = 21 → a = a') (hb : kd = 4 ∨ kd = 5 ∨ kd = 10 → lo = lo' ∧ hi = hi') (ht : kd = 9 ∨ kd = 34 → th = th') (h1 : us1 kd = true → A = A') (h2 : us2 kd = true → B = B') (h3 : us3 kd = true → C = C') : oV kd a lo hi th A B C = oV kd a' lo' hi' th' A' B' C' := by
  funext h i
  rw [oV, oV, opV_norm hk ha hb ht]
  exact opV_congr hk hC.refl (fun u j _ => by rw [h1 u]) (fun u j _ => by rw [h2 u]) (fun u j _ => by rw [h3 u])
theorem oR_congr {kd lo lo' hi hi' pl pl' : Int32} {A A' : Vl} {ra rb ra' rb' : Rz} (hb : kd = 5 → lo = lo' ∧ hi = hi') (hp : kd ≠ 8 ∧ kd ≠ 11 ∧ kd ≠ 12 ∧ kd ≠ 13 → pl = pl') (h1 : us1 kd = true → A = A' ∧ ra = ra') (h2 : us2 kd = true → rb = rb') : oR kd lo hi pl A ra rb = oR kd lo' hi' pl' A' ra' rb' := by
  funext h i
  have e : oR kd lo hi pl A ra rb h i = oR kd lo' hi' pl' A ra rb h i := by
    unfold oR opR
    by_cases k1 : kd = 11
    · rw [if_pos k1, if_pos k1]
    by_cases k2 : kd = 12
    · rw [if_neg k1, if_neg k1, if_pos k2, if_pos k2]
    by_cases k3 : kd = 13
    · rw [if_neg k1, if_neg k1, if_neg k2, if_neg k2, if_pos k3, if_pos k3]
    by_cases k8 : kd = 8
    · subst k8; rfl
    have ep := hp ⟨k8, k1, k2, k3⟩
    subst ep
    by_cases k : kd = 5
    · obtain ⟨e1, e2⟩ := hb k; rw [e1, e2]
    · simp only [if_neg k]
  rw [e]
  exact opR_congr hC.refl (fun u j _ => by rw [(h1 u).1, (h1 u).2]; exact ⟨rfl, rfl⟩) (fun u j _ => by rw [h2 u])
