-- tokens out of a list of bytes
def isBl (x : Int32) : Bool := decide (x = 32) || decide (x = 10)
def isWd (x : Int32) : Bool := isL x || isD x
def wdL (l : List Int32) : Int64 := vV 256 (fun i => (l.getD i 0).toInt64) l.length
def nmL (l : List Int32) : Int64 := vV 10 (fun i => (l.getD i 0 - 48).toInt64) l.length
def kw0 (j : Nat) : Int64 := lN (vN 256 (kwB j) (kwL j))
theorem kwF_0 {kw : Nat → Int64} (hkw : kwOK kw) {w : Int64} : ∀ n j, j + n ≤ 30 → kwF kw w n j = kwF kw0 w n j
  | 0, _, _ => rfl
  | n+1, j, h => by rw [kwF, kwF, kwF_0 hkw n (j + 1) (by omega), show kw j = kw0 j from hkw j (by omega)]
theorem kwS_0 {kw : Nat → Int64} (hkw : kwOK kw) {w : Int64} : kwS kw w = kwS kw0 w := kwF_0 hkw 30 0 (by decide)
def hdB (l : List Int32) : Int32 := match l with
  | [] => -1
  | x :: _ => x
def tokC (x : Int32) (r : List Int32) : (Int32 × Int64) × List Int32 :=
  if isL x then ((if 8 < ((x :: r).takeWhile isWd).length then 54 else kwS kw0 (wdL ((x :: r).takeWhile isWd)), wdL ((x :: r).takeWhile isWd)), (x :: r).dropWhile isWd)
  else if isD x then ((if 6 < ((x :: r).takeWhile isD).length then 54 else 52, nmL ((x :: r).takeWhile isD)), (x :: r).dropWhile isD)
  else if s2 x (hdB r) = 54 then ((s1 x, 0), r) else ((s2 x (hdB r), 0), r.tail)
def tokL (l : List Int32) : (Int32 × Int64) × List Int32 := match l with
  | [] => ((53, 0), [])
  | x :: r => tokC x r
theorem tw_getD {P : Int32 → Bool} : ∀ (l : List Int32) (i : Nat), i < (l.takeWhile P).length → (l.takeWhile P).getD i 0 = l.getD i 0
  | [], i, h => by simp at h
  | x :: r, i, h => by
    by_cases c : P x = true
    · rw [List.takeWhile_cons_of_pos c] at h ⊢
      cases i with
      | zero => rfl
      | succ i => exact tw_getD r i (by simpa using h)
    · rw [List.takeWhile_cons_of_neg c] at h
      simp at h
theorem tw_app {P : Int32 → Bool} : ∀ (l R : List Int32), l.dropWhile P ≠ [] → (l ++ R).takeWhile P = l.takeWhile P ∧ (l ++ R).dropWhile P = l.dropWhile P ++ R
  | [], R, h => absurd rfl h
  | x :: r, R, h => by
    by_cases c : P x = true
    · rw [List.dropWhile_cons_of_pos c] at h
      obtain ⟨a, b⟩ := tw_app r R h
      rw [List.cons_append, List.takeWhile_cons_of_pos c, List.dropWhile_cons_of_pos c, List.takeWhile_cons_of_pos c, List.dropWhile_cons_of_pos c, a, b]
      exact ⟨rfl, rfl⟩
    · rw [List.cons_append, List.takeWhile_cons_of_neg c, List.dropWhile_cons_of_neg c, List.takeWhile_cons_of_neg c, List.dropWhile_cons_of_neg c]
      exact ⟨rfl, rfl⟩
theorem vV_same {m : Int64} {g h : Nat → Int64} : ∀ n, (∀ i, i < n → g i = h i) → vV m g n = vV m h n
  | 0, _ => rfl
  | n+1, e => by rw [vV, vV, vV_same n (fun i hi => e i (by omega)), e n (by omega)]
section TL
variable {bt : Nat → Int32} {len p : Nat} {l r R : List Int32} {x : Int32} {kw : Nat → Int64}
/-- from p on the tape is the list -/
def Suf (bt : Nat → Int32) (len p : Nat) (l : List Int32) : Prop := p + l.length = len ∧ (∀ i, i < l.length → bt (p + i) = l.getD i 0) ∧ ∀ x ∈ l, x ≠ -1
theorem Suf.bat (h : Suf bt len p (x :: r)) : p < len ∧ bAt bt len p = x := by
  have h1 := h.1
  rw [List.length_cons] at h1
  have := h.2.1 0 (by simp)
  exact ⟨by omega, (bAt_in (by omega)).trans this⟩
theorem Suf.tl (h : Suf bt len p (x :: r)) : Suf bt len (p + 1) r := by
  obtain ⟨h1, h2, h3⟩ := h
  rw [List.length_cons] at h1
  refine ⟨by omega, fun i hi => ?_, fun y hy => h3 y (List.mem_cons_of_mem _ hy)⟩
  have := h2 (i + 1) (by simpa using hi)
  rw [show p + 1 + i = p + (i + 1) by omega, this]
  rfl
theorem Suf.hd (h : Suf bt len p l) : bAt bt len p = hdB l := by
  cases l with
  | nil =>
    have h1 := h.1
    exact bAt_out (by simp at h1; omega)
  | cons x r => exact h.bat.2
theorem Suf.run {P : Int32 → Bool} (hP : P (-1) = false) {c : Nat → Bool} (hc : ∀ q, c q = P (bAt bt len q)) : ∀ (l : List Int32) (p : Nat), Suf bt len p l → run c len p = p + (l.takeWhile P).length ∧ Suf bt len (p + (l.takeWhile P).length) (l.dropWhile P)
  | [], p, h => by
    have e : c p = false := by rw [hc p, h.hd]; exact hP
    rw [run_f e]
    exact ⟨rfl, h⟩
  | x :: r, p, h => by
    have hx := h.bat
    by_cases q : P x = true
    · have e : c p = true := by rw [hc p, hx.2]; exact q
      obtain ⟨a, b⟩ := Suf.run hP hc r (p + 1) h.tl
      rw [run_t hx.1 e, a, List.takeWhile_cons_of_pos q, List.dropWhile_cons_of_pos q, List.length_cons]
      refine ⟨by omega, ?_⟩
      rw [show p + ((r.takeWhile P).length + 1) = p + 1 + (r.takeWhile P).length by omega]
      exact b
    · have e : c p = false := by rw [hc p, hx.2]; simpa using q
      rw [run_f e, List.takeWhile_cons_of_neg q, List.dropWhile_cons_of_neg q]
      exact ⟨rfl, h⟩
theorem Suf.get {P : Int32 → Bool} (h : Suf bt len p l) {i : Nat} (hi : i < (l.takeWhile P).length) : bt (p + i) = (l.takeWhile P).getD i 0 := by
  rw [tw_getD l i hi]
  refine h.2.1 i ?_
  have e := congrArg List.length (List.takeWhile_append_dropWhile (p := P) (l := l))
  rw [List.length_append] at e
  omega
theorem tok_at (hkw : kwOK kw) (h : Suf bt len p l) : sC kw bt len p = (tokL l).1.1 ∧ wC bt len p = (tokL l).1.2 ∧ Suf bt len (eC bt len p) (tokL l).2 := by
  cases l with
  | nil =>
    have e := h.hd
    have e : bAt bt len p = -1 := e
    have d : cD bt len p = false := by rw [cD, e]; decide
    unfold sC wC eC
    rw [e, if_pos rfl, if_pos rfl, if_neg (show ¬ isL (-1) = true by decide), run_f d, Nat.sub_self]
    exact ⟨rfl, rfl, h⟩
  | cons x r =>
    obtain ⟨hp, e⟩ := h.bat
    have hx : x ≠ -1 := h.2.2 x List.mem_cons_self
    obtain ⟨w1, w2⟩ := Suf.run (P := isWd) (by decide) (c := cW bt len) (fun q => rfl) (x :: r) p h
    obtain ⟨d1, d2⟩ := Suf.run (P := isD) (by decide) (c := cD bt len) (fun q => rfl) (x :: r) p h
    have e1 : bAt bt len (p + 1) = hdB r := h.tl.hd
    show sC kw bt len p = (tokC x r).1.1 ∧ wC bt len p = (tokC x r).1.2 ∧ Suf bt len (eC bt len p) (tokC x r).2
    unfold sC wC eC tokC
    rw [e, e1, if_neg hx, if_neg hx]
    by_cases c1 : isL x = true
    · rw [if_pos c1, if_pos c1, if_pos c1, if_pos c1, w1, Nat.add_sub_cancel_left]
      have ew : wdV bt p ((x :: r).takeWhile isWd).length = wdL ((x :: r).takeWhile isWd) := vV_same _ (fun i hi => congrArg Int32.toInt64 (h.get hi))
      rw [ew, kwS_0 hkw]
      exact ⟨rfl, rfl, w2⟩
    rw [if_neg c1, if_neg c1, if_neg c1, if_neg c1]
    by_cases c2 : isD x = true
    · rw [if_pos c2, if_pos c2, if_pos c2, d1, Nat.add_sub_cancel_left]
      have ew : nmV bt p ((x :: r).takeWhile isD).length = nmL ((x :: r).takeWhile isD) := vV_same _ (fun i hi => congrArg (fun z : Int32 => (z - 48).toInt64) (h.get hi))
      rw [ew]
      exact ⟨rfl, rfl, d2⟩
    rw [if_neg c2, if_neg c2, if_neg c2]
    have d0 : cD bt len p = false := by rw [cD, e]; simpa using c2
    rw [run_f d0, Nat.sub_self]
    by_cases c3 : s2 x (hdB r) = 54
    · rw [if_pos c3, if_pos c3, if_pos c3]
      exact ⟨rfl, rfl, h.tl⟩
    · rw [if_neg c3, if_neg c3, if_neg c3]
      refine ⟨rfl, rfl, ?_⟩
      cases r with
      | nil => exact absurd rfl (s2_out c3)
      | cons y r => exact h.tl.tl
/-- what is left behind the next token, and behind n tokens -/
def adL (l : List Int32) : List Int32 := (tokL (l.dropWhile isBl)).2
def itL : Nat → List Int32 → List Int32
  | 0, l => l
  | n+1, l => itL n (adL l)
theorem itL_adL : ∀ (n : Nat) (l : List Int32), itL (n + 1) l = adL (itL n l)
  | 0, _ => rfl
  | n+1, l => itL_adL n (adL l)
def TK (l : List Int32) (n : Nat) : Int32 × Int64 := (tokL ((itL n l).dropWhile isBl)).1
theorem blk (h : Suf bt len p l) : Suf bt len (run (cB bt len) len p) (l.dropWhile isBl) := by
  obtain ⟨a, b⟩ := Suf.run (P := isBl) (by decide) (c := cB bt len) (fun q => rfl) l p h
  rw [a]; exact b
theorem suf_it (hkw : kwOK kw) (h : Suf bt len 0 l) : ∀ n, Suf bt len (qC bt len n) (itL n l)
  | 0 => h
  | n+1 => by
    rw [itL_adL, qC_s]
    exact (tok_at hkw (blk (suf_it hkw h n))).2.2
theorem tk_at (hkw : kwOK kw) (h : Suf bt len 0 l) (n : Nat) : tkS kw bt len n = (TK l n).1 ∧ tkW bt len n = (TK l n).2 := by
  obtain ⟨a, b, -⟩ := tok_at hkw (blk (suf_it hkw h n))
  exact ⟨a, b⟩
theorem tokL_app (h : (tokL l).2 ≠ []) : tokL (l ++ R) = ((tokL l).1, (tokL l).2 ++ R) := by
  cases l with
  | nil => exact absurd rfl h
  | cons x r =>
    have h : (tokC x r).2 ≠ [] := h
    show tokC x (r ++ R) = ((tokC x r).1, (tokC x r).2 ++ R)
    unfold tokC at h ⊢
    by_cases c1 : isL x = true
    · rw [if_pos c1] at h
      rw [if_pos c1, if_pos c1]
      obtain ⟨a, b⟩ := tw_app (P := isWd) (x :: r) R h
      rw [List.cons_append] at a b
      rw [a, b]
    rw [if_neg c1] at h
    rw [if_neg c1, if_neg c1]
    by_cases c2 : isD x = true
    · rw [if_pos c2] at h
      rw [if_pos c2, if_pos c2]
      obtain ⟨a, b⟩ := tw_app (P := isD) (x :: r) R h
      rw [List.cons_append] at a b
      rw [a, b]
    rw [if_neg c2] at h
    rw [if_neg c2, if_neg c2]
    cases r with
    | nil =>
      by_cases c3 : s2 x (hdB []) = 54
      · rw [if_pos c3] at h; exact absurd rfl h
      · rw [if_neg c3] at h; exact absurd rfl h
    | cons y r =>
      have e : hdB (y :: r ++ R) = hdB (y :: r) := rfl
      rw [e]
      by_cases c3 : s2 x (hdB (y :: r)) = 54
      · rw [if_pos c3, if_pos c3]
      · rw [if_neg c3, if_neg c3]; rfl
theorem adL_app (h : adL l ≠ []) : (tokL ((l ++ R).dropWhile isBl)).1 = (tokL (l.dropWhile isBl)).1 ∧ adL (l ++ R) = adL l ++ R := by
  have h0 : l.dropWhile isBl ≠ [] := fun z => h (by unfold adL; rw [z]; rfl)
  unfold adL at h ⊢
  rw [(tw_app (P := isBl) l R h0).2, tokL_app h]
  exact ⟨rfl, rfl⟩
theorem adL_nil : ∀ n, itL n [] = []
  | 0 => rfl
  | n+1 => adL_nil n
def scn : Nat → List Int32 → List (Int32 × Int64)
  | 0, _ => []
  | n+1, l => (tokL (l.dropWhile isBl)).1 :: scn n (adL l)
theorem TK_s {n : Nat} : TK l (n + 1) = TK (adL l) n := rfl
theorem TK_bl : ∀ n, TK (32 :: R) n = TK R n
  | 0 => rfl
  | _+1 => rfl
/-- a piece of text: its tokens, whatever comes behind it -/
def Pc (A : List Int32) (ts : List (Int32 × Int64)) : Prop := ∀ R, (∀ j, j < ts.length → TK (A ++ R) j = ts.getD j (53, 0)) ∧ ∀ j, TK (A ++ R) (ts.length + j) = TK R j
theorem pc_of : ∀ (n : Nat) (A : List Int32) (ts : List (Int32 × Int64)), ts.length = n → scn n A = ts → itL n A = [32] → Pc A ts
  | 0, A, ts, h1, h2, h3 => by
    have h3 : A = [32] := h3
    subst h3
    subst h2
    exact fun R => ⟨fun j hj => absurd hj (Nat.not_lt_zero _), fun j => by
      show TK (32 :: R) (0 + j) = TK R j
      rw [Nat.zero_add]; exact TK_bl j⟩
  | n+1, A, ts, h1, h2, h3 => by
    subst h2
    have h3 : itL n (adL A) = [32] := h3
    have hne : adL A ≠ [] := fun z => by rw [z, adL_nil] at h3; cases h3
    have ih := pc_of n (adL A) (scn n (adL A)) (by simpa [scn] using h1) rfl h3
    intro R
    obtain ⟨a, b⟩ := adL_app (R := R) hne
    obtain ⟨c, d⟩ := ih R
    refine ⟨fun j hj => ?_, fun j => ?_⟩
    · cases j with
      | zero => exact a
      | succ j =>
        rw [TK_s, b]
        exact c j (by simpa [scn] using hj)
    · have e : (scn (n + 1) A).length + j = (scn n (adL A)).length + j + 1 := by simp [scn]; omega
      rw [e, TK_s, b]
      exact d j
theorem Pc.app {A A' : List Int32} {ts ts' : List (Int32 × Int64)} (h : Pc A ts) (h' : Pc A' ts') : Pc (A ++ A') (ts ++ ts') := by
  intro R
  rw [List.append_assoc]
  obtain ⟨a, b⟩ := h (A' ++ R)
  obtain ⟨c, d⟩ := h' R
  refine ⟨fun j hj => ?_, fun j => ?_⟩
  · rw [List.length_append] at hj
    by_cases z : j < ts.length
    · rw [a j z]; simp [List.getElem?_append_left z]
    · obtain ⟨q, rfl⟩ : ∃ q, j = ts.length + q := ⟨j - ts.length, by omega⟩
      rw [b q, c q (by omega)]
      simp [List.getElem?_append_right]
  · rw [List.length_append, Nat.add_assoc, b, d]
/-- from the token n on they are those of R -/
def Off (B : List Int32) (n : Nat) (R : List Int32) : Prop := ∀ j, TK B (n + j) = TK R j
theorem Off.zero {B : List Int32} : Off B 0 B := fun j => by rw [Nat.zero_add]
theorem Off.step {B A : List Int32} {n : Nat} {ts : List (Int32 × Int64)} (h : Off B n (A ++ R)) (hp : Pc A ts) : (∀ j, j < ts.length → TK B (n + j) = ts.getD j (53, 0)) ∧ Off B (n + ts.length) R := by
  obtain ⟨a, b⟩ := hp R
  exact ⟨fun j hj => (h j).trans (a j hj), fun j => by rw [Nat.add_assoc, h, b]⟩
theorem TK_end {n : Nat} (h : itL n l = []) : ∀ j, TK l (n + j) = (53, 0) := by
  intro j
  have : ∀ n j l, itL (n + j) l = itL j (itL n l) := by
    intro n
    induction n with
    | zero => intro j l; rw [Nat.zero_add]; rfl
    | succ n ih => intro j l; rw [show n + 1 + j = n + j + 1 by omega]; exact ih j (adL l)
  unfold TK
  rw [this, h, adL_nil]
  rfl
end TL
