-- what the reference reckons, as numbers alone
/-- texts, and that rows of texts can be made -/
def mKY (adK adV tK : Nat → Nat) (A : Nat → Prop) (U : State) : Prop := mKS adK adV tK A U ∧ va_AO "java/lang/String" U
theorem mKYc {adK adV tK : Nat → Nat} : gC (mKY adK adV tK) := fun A A' U U' h hW hk hA hA2 => ⟨mKSc A A' U U' h.1 hW hk hA hA2, h.2.moved hW.alike⟩
theorem va_AnyS {s : State} {H : Heap} {b : Nat} {E : String} (h : ∃ cell : Cell, H[b]? = some cell ∧ cell.vm.isStatics = false ∧ s.vm.findClass E = some cell.cls) : va_Any E s H b := by
  obtain ⟨cell, h1, h2, h3⟩ := h
  obtain ⟨kC, hkC, -⟩ := Vm.findClass_spec h3
  exact ⟨cell, h1, h2, ⟨kC, hkC⟩, fun comp h => by cases h.symm.trans h3; exact va_asg _ _⟩
def FX11_thrown  (σ : MS) : Option (Int32 × MS) :=
  some (σ.1 0, σ)
def FX11_no (p0 : Int32) (σ : MS) : Option (Int32 × MS) :=
  some ((0 : Int32), (sI σ 0 p0))
def FX11_isIn (p0 : Int32) (p1 : Int32) (p2 : Int32) : Option Int32 :=
  if p0 < p1 then
    some (0 : Int32)
  else
    if p2 < p0 then
      some (0 : Int32)
    else
      some (1 : Int32)
def FX11_byteAt (p0 : Int32) (σ : MS) : Option (Int32 × MS) :=
  if (σ.1 2) ≤ p0 then
    some ((-1 : Int32), σ)
  else
    if (p0 < 0 ∨ 1800 ≤ p0.toNatClampNeg) then none else
    some ((σ.2.1 1 p0.toNatClampNeg), σ)
def FX11_isLetter (p0 : Int32) : Option Int32 :=
  (FX11_isIn p0 (97 : Int32) (122 : Int32)).bind fun r_1 =>
  if (r_1 ≠ 0 ∧ r_1 ≠ 1) then none else
  some r_1
def FX11_isDigit (p0 : Int32) : Option Int32 :=
  (FX11_isIn p0 (48 : Int32) (57 : Int32)).bind fun r_1 =>
  if (r_1 ≠ 0 ∧ r_1 ≠ 1) then none else
  some r_1
def FX11_goes  (σ : MS) : Option (Int32 × MS) :=
  if (σ.1 7) = (400 : Int32) then
    some ((0 : Int32), σ)
  else
    some ((1 : Int32), (sI σ 7 ((σ.1 7) + (1 : Int32))))
def FX11_takesNumber  (σ : MS) : Option (Int32 × MS) :=
  if ((σ.1 7) < 0 ∨ 1801 ≤ (σ.1 7).toNatClampNeg) then none else
  if (σ.2.1 4 (σ.1 7).toNatClampNeg) = (2 : Int32) then
    b2 (FX11_goes σ) fun r_3 σ_3 =>
    if r_3 = 0 then
      some ((0 : Int32), σ_3)
    else
      some ((1 : Int32), σ_3)
  else
    some ((0 : Int32), σ)
def FX11_trim (p0 : Int32) (σ : MS) : Option (Int32 × MS) :=
  (FX11_isIn p0 (0 : Int32) (σ.1 2)).bind fun r_1 =>
  if r_1 = 0 then
    b2 (FX11_no (1 : Int32) (sI σ 0 (0 : Int32))) fun r_3 σ_3 =>
    some (r_3, σ_3)
  else
    some (p0, (sI (sI σ 0 (0 : Int32)) 2 p0))
def FX11_wrong (p0 : Int32) (p1 : Int32) (σ : MS) : Option (Int32 × MS) :=
  if (p1 < 0 ∨ 1801 ≤ p1.toNatClampNeg) then none else
  some (p0, (sI σ 3 (σ.2.1 5 p1.toNatClampNeg)))
def FX11_numberOf_9 (L : Nat)  : Nat → Int32 → Int32 → Int32 → MS → Option (Int32 × MS)
  | 0, _, _, _, _ => none
  | n+1, x1, x2, x3, σ1 =>
    if (x1 < 0 ∨ 1801 ≤ x1.toNatClampNeg) then none else
    if (σ1.2.1 6 x1.toNatClampNeg) ≤ x3 then
      some (x2, σ1)
    else
      if (x3 < 0 ∨ 1800 ≤ x3.toNatClampNeg) then none else
      (FX11_numberOf_9 L n) x1 ((((10 : Int32) * x2) + (σ1.2.1 1 x3.toNatClampNeg)) - (48 : Int32)) (x3 + (1 : Int32)) σ1
def FX11_numberOf (L : Nat) (p0 : Int32) (σ : MS) : Option (Int32 × MS) :=
  if (p0 < 0 ∨ 1801 ≤ p0.toNatClampNeg) then none else
  FX11_numberOf_9 L L p0 (0 : Int32) (σ.2.1 5 p0.toNatClampNeg) σ
def FX11_nameOf_10 (L : Nat)  : Nat → Int32 → Int64 → Int32 → MS → Option (Int64 × MS)
  | 0, _, _, _, _ => none
  | n+1, x1, x2, x4, σ1 =>
    if (x1 < 0 ∨ 1801 ≤ x1.toNatClampNeg) then none else
    if (σ1.2.1 6 x1.toNatClampNeg) ≤ x4 then
      some (x2, σ1)
    else
      if (x4 < 0 ∨ 1800 ≤ x4.toNatClampNeg) then none else
      (FX11_isDigit (σ1.2.1 1 x4.toNatClampNeg)).bind fun r_5 =>
      if r_5 = 0 then
        if (x4 < 0 ∨ 1800 ≤ x4.toNatClampNeg) then none else
        (FX11_nameOf_10 L n) x1 (((37 : Int64) * x2) + (((σ1.2.1 1 x4.toNatClampNeg) - (86 : Int32)).toInt64)) (x4 + (1 : Int32)) σ1
      else
        if (x4 < 0 ∨ 1800 ≤ x4.toNatClampNeg) then none else
        (FX11_nameOf_10 L n) x1 (((37 : Int64) * x2) + (((σ1.2.1 1 x4.toNatClampNeg) - (47 : Int32)).toInt64)) (x4 + (1 : Int32)) σ1
def FX11_nameOf (L : Nat) (p0 : Int32) (σ : MS) : Option (Int64 × MS) :=
  if (p0 < 0 ∨ 1801 ≤ p0.toNatClampNeg) then none else
  FX11_nameOf_10 L L p0 (0 : Int64) (σ.2.1 5 p0.toNatClampNeg) σ
def FX11_at (p0 : Int32) (p1 : Int32) (σ : MS) : Option (Int64 × MS) :=
  if ((((120 : Int32) * p0) + p1) < 0 ∨ 144360 ≤ (((120 : Int32) * p0) + p1).toNatClampNeg) then none else
  some ((σ.2.2 16 (((120 : Int32) * p0) + p1).toNatClampNeg), σ)
def FX11_holds (p0 : Int32) (p1 : Int32) (σ : MS) : Option (Int32 × MS) :=
  b2 (FX11_at p0 p1 σ) fun r_1 σ_1 =>
  if r_1 = (0 : Int64) then
    some ((0 : Int32), σ_1)
  else
    some ((1 : Int32), σ_1)
def FX11_isWithin (p0 : Int32) (p1 : Int32) (p2 : Int32) (σ : MS) : Option (Int32 × MS) :=
  if (p0 < 0 ∨ 1203 ≤ p0.toNatClampNeg) then none else
  if (σ.2.1 14 p0.toNatClampNeg) = (-1 : Int32) then
    some ((1 : Int32), σ)
  else
    if (p2 < 0 ∨ 120 ≤ p2.toNatClampNeg) then none else
    if (p1 < 0 ∨ 120 ≤ p1.toNatClampNeg) then none else
    if (p0 < 0 ∨ 1203 ≤ p0.toNatClampNeg) then none else
    if (p0 < 0 ∨ 1203 ≤ p0.toNatClampNeg) then none else
    (FX11_isIn ((σ.2.1 30 p2.toNatClampNeg) - (σ.2.1 30 p1.toNatClampNeg)) (σ.2.1 13 p0.toNatClampNeg) (σ.2.1 14 p0.toNatClampNeg)).bind fun r_7 =>
    if r_7 = 0 then
      some ((0 : Int32), σ)
    else
      some ((1 : Int32), σ)
def FX11_truth (p0 : Int32) : Option Int64 :=
  if p0 = 0 then
    some (0 : Int64)
  else
    some (1 : Int64)
def FX11_compared (p0 : Int32) (p1 : Int64) (p2 : Int64) : Option Int32 :=
  if p0 = 0 then
    if p1 = p2 then
      some (1 : Int32)
    else
      some (0 : Int32)
  else
    if p0 = (1 : Int32) then
      if p1 = p2 then
        some (0 : Int32)
      else
        some (1 : Int32)
    else
      if p0 = (2 : Int32) then
        if ¬ p1 < p2 then
          some (0 : Int32)
        else
          some (1 : Int32)
      else
        if p0 = (3 : Int32) then
          if ¬ p2 < p1 then
            some (0 : Int32)
          else
            some (1 : Int32)
        else
          if p0 = (4 : Int32) then
            if p2 < p1 then
              some (0 : Int32)
            else
              some (1 : Int32)
          else
            if p1 < p2 then
              some (0 : Int32)
            else
              some (1 : Int32)
def FX11_both_13  (x0 : Int32) (x1 : Int64) (x3 : Int64) : Option Int64 :=
    if x0 = 0 then
      some (x1 + x3)
    else
      if x0 = (1 : Int32) then
        some (x1 - x3)
      else
        if x0 = (2 : Int32) then
          some (x1 * x3)
        else
          if x0 = (3 : Int32) then
            if (x3 = 0) then none else
            some (x1 / x3)
          else
            if (x3 = 0) then none else
            some (x1 - x1 / x3 * x3)
def FX11_both (p0 : Int32) (p1 : Int64) (p2 : Int64) : Option Int64 :=
  if p0 ≤ (2 : Int32) then
    FX11_both_13 p0 p1 p2
  else
    if p2 = (0 : Int64) then
      some (0 : Int64)
    else
      FX11_both_13 p0 p1 p2
def FX11_moved (p0 : Int32) (p1 : Int32) (p2 : Int32) (p3 : Int32) : Option Int32 :=
  if p3 = 0 then
    some p0
  else
    if p0 < p1 then
      some p0
    else
      some (p0 - p2)
def FX11_isPart (p0 : Int32) (p1 : Int32) : Option Int32 :=
  if p0 = (20 : Int32) then
    some (0 : Int32)
  else
    if p0 = (21 : Int32) then
      some (0 : Int32)
    else
      if p1 < (3 : Int32) then
        some (1 : Int32)
      else
        if p0 = (33 : Int32) then
          some (1 : Int32)
        else
          some (0 : Int32)
def FX11_isStep (p0 : Int32) (σ : MS) : Option (Int32 × MS) :=
  (FX11_isIn p0 (0 : Int32) ((σ.1 29) - (1 : Int32))).bind fun r_1 =>
  if (r_1 ≠ 0 ∧ r_1 ≠ 1) then none else
  some (r_1, σ)
def FX11_isWatch (p0 : Int32) (σ : MS) : Option (Int32 × MS) :=
  if ((3 : Int32) < 0 ∨ 4 ≤ (3 : Int32).toNatClampNeg) then none else
  (FX11_isIn p0 (0 : Int32) ((σ.2.1 23 (3 : Int32).toNatClampNeg) - (1 : Int32))).bind fun r_2 =>
  if (r_2 ≠ 0 ∧ r_2 ≠ 1) then none else
  some (r_2, σ)
def FX11_watches (p0 : Int32) (p1 : Int32) (σ : MS) : Option (Int32 × MS) :=
  if (((36 : Int32) + p0) < 0 ∨ 48 ≤ ((36 : Int32) + p0).toNatClampNeg) then none else
  b2 (FX11_holds (σ.2.1 25 ((36 : Int32) + p0).toNatClampNeg) p1 σ) fun r_2 σ_2 =>
  if (r_2 ≠ 0 ∧ r_2 ≠ 1) then none else
  some (r_2, σ_2)
def FX11_counted (p0 : Int32) (σ : MS) : Option (Int32 × MS) :=
  if (4 : Int32) ≤ p0 then
    if p0 = (4 : Int32) then
      some (σ.1 29, σ)
    else
      if p0 = (5 : Int32) then
        some (σ.1 33, σ)
      else
        some (σ.1 2, σ)
  else
    if (p0 < 0 ∨ 4 ≤ p0.toNatClampNeg) then none else
    some ((σ.2.1 23 p0.toNatClampNeg), σ)
def FX11_count (p0 : Int32) (σ : MS) : Option (Int32 × MS) :=
  (FX11_isIn p0 (0 : Int32) (6 : Int32)).bind fun r_1 =>
  if r_1 = 0 then
    b2 (FX11_no (1 : Int32) (sI σ 0 (0 : Int32))) fun r_3 σ_3 =>
    some (r_3, σ_3)
  else
    b2 (FX11_counted p0 (sI σ 0 (0 : Int32))) fun r_4 σ_4 =>
    some (r_4, σ_4)
def FX11_lastHolding_5 (L : Nat)  : Nat → Int32 → Int32 → Int32 → Int32 → MS → Option (Int32 × MS)
  | 0, _, _, _, _, _ => none
  | n+1, x1, x2, x3, x4, σ1 =>
    if x2 < x4 then
      some (x3, σ1)
    else
      b2 (FX11_holds x1 x4 σ1) fun r_2 σ_2 =>
      if r_2 = 0 then
        (FX11_lastHolding_5 L n) x1 x2 x3 (x4 + (1 : Int32)) σ_2
      else
        (FX11_lastHolding_5 L n) x1 x2 x4 (x4 + (1 : Int32)) σ_2
def FX11_lastHolding (L : Nat) (p0 : Int32) (p1 : Int32) (σ : MS) : Option (Int32 × MS) :=
  FX11_lastHolding_5 L L p0 p1 (-1 : Int32) (0 : Int32) σ
def FX11_overAll_11 (L : Nat)  : Nat → Int32 → Int32 → Int32 → Int64 → Int32 → MS → Option (Int64 × MS)
  | 0, _, _, _, _, _, _ => none
  | n+1, x1, x2, x3, x4, x6, σ1 =>
    if x3 < x6 then
      some (x4, σ1)
    else
      if x1 = (27 : Int32) then
        b2 (FX11_at x2 x6 σ1) fun r_7 σ_7 =>
        (FX11_overAll_11 L n) x1 x2 x3 (if r_7 < x4 then x4 else r_7) (x6 + (1 : Int32)) σ_7
      else
        if x1 = (28 : Int32) then
          b2 (FX11_at x2 x6 σ1) fun r_6 σ_6 =>
          (FX11_overAll_11 L n) x1 x2 x3 (if r_6 < x4 then r_6 else x4) (x6 + (1 : Int32)) σ_6
        else
          b2 (FX11_at x2 x6 σ1) fun r_5 σ_5 =>
          (FX11_overAll_11 L n) x1 x2 x3 (x4 + r_5) (x6 + (1 : Int32)) σ_5
def FX11_overAll (L : Nat) (p0 : Int32) (p1 : Int32) (p2 : Int32) (σ : MS) : Option (Int64 × MS) :=
  b2 (FX11_at p1 (0 : Int32) σ) fun r_1 σ_1 =>
  FX11_overAll_11 L L p0 p1 p2 r_1 (1 : Int32) σ_1
def FX11_firstMiss_5 (L : Nat)  : Nat → Int32 → Int32 → Int32 → Int32 → MS → Option (Int32 × MS)
  | 0, _, _, _, _, _ => none
  | n+1, x1, x2, x3, x4, σ1 =>
    if x4 < 0 then
      some (x3, σ1)
    else
      if (x1 < 0 ∨ 1203 ≤ x1.toNatClampNeg) then none else
      b2 (FX11_holds (σ1.2.1 10 x1.toNatClampNeg) x4 σ1) fun r_3 σ_3 =>
      if r_3 = 0 then
        b2 (FX11_isWithin x1 x4 x2 σ_3) fun r_5 σ_5 =>
        if r_5 = 0 then
          (FX11_firstMiss_5 L n) x1 x2 x3 (x4 + (-1 : Int32)) σ_5
        else
          (FX11_firstMiss_5 L n) x1 x2 x4 (x4 + (-1 : Int32)) σ_5
      else
        (FX11_firstMiss_5 L n) x1 x2 x3 (x4 + (-1 : Int32)) σ_3
def FX11_firstMiss (L : Nat) (p0 : Int32) (p1 : Int32) (σ : MS) : Option (Int32 × MS) :=
  FX11_firstMiss_5 L L p0 p1 (-1 : Int32) p1 σ
def FX11_isSince_53 (L : Nat) (k8 : Int32 → Int32 → Int32 → Int32 → Int32 → MS → Option (Int32 × MS)) (x1 : Int32) (x2 : Int32) (x5 : Int32) (y0 : Int32) (σ1 : MS) : Option (Int32 × MS) :=
    if (x1 < 0 ∨ 1203 ≤ x1.toNatClampNeg) then none else
    b2 (FX11_holds (σ1.2.1 10 x1.toNatClampNeg) x5 σ1) fun r_7 σ_7 =>
    k8 x1 x2 y0 r_7 (x5 + (-1 : Int32)) σ_7
def FX11_isSince_48 (L : Nat) (k8 : Int32 → Int32 → Int32 → Int32 → Int32 → MS → Option (Int32 × MS)) (x1 : Int32) (x2 : Int32) (x5 : Int32) (σ1 : MS) : Option (Int32 × MS) :=
    FX11_isSince_53 L k8 x1 x2 x5 (1 : Int32) σ1
def FX11_isSince_52 (L : Nat) (k8 : Int32 → Int32 → Int32 → Int32 → Int32 → MS → Option (Int32 × MS)) (x1 : Int32) (x2 : Int32) (x5 : Int32) (σ1 : MS) : Option (Int32 × MS) :=
    FX11_isSince_53 L k8 x1 x2 x5 (0 : Int32) σ1
def FX11_isSince_8 (L : Nat)  : Nat → Int32 → Int32 → Int32 → Int32 → Int32 → MS → Option (Int32 × MS)
  | 0, _, _, _, _, _, _ => none
  | n+1, x1, x2, x3, x4, x5, σ1 =>
    if x5 < 0 then
      if (x3 ≠ 0 ∧ x3 ≠ 1) then none else
      some (x3, σ1)
    else
      if x4 = 0 then
        if (x3 ≠ 0 ∧ x3 ≠ 1) then none else
        some (x3, σ1)
      else
        if x3 = 0 then
          if (x1 < 0 ∨ 1203 ≤ x1.toNatClampNeg) then none else
          b2 (FX11_holds (σ1.2.1 11 x1.toNatClampNeg) x5 σ1) fun r_9 σ_9 =>
          if r_9 = 0 then
            FX11_isSince_52 L (FX11_isSince_8 L n) x1 x2 x5 σ_9
          else
            b2 (FX11_isWithin x1 x5 x2 σ_9) fun r_11 σ_11 =>
            if r_11 = 0 then
              FX11_isSince_52 L (FX11_isSince_8 L n) x1 x2 x5 σ_11
            else
              FX11_isSince_48 L (FX11_isSince_8 L n) x1 x2 x5 σ_11
        else
          FX11_isSince_48 L (FX11_isSince_8 L n) x1 x2 x5 σ1
def FX11_isSince (L : Nat) (p0 : Int32) (p1 : Int32) (σ : MS) : Option (Int32 × MS) :=
  FX11_isSince_8 L L p0 p1 (0 : Int32) (1 : Int32) p1 σ
def FX11_isTrue_190 (L : Nat)  : Nat → Int32 → Int32 → Int32 → Int32 → Int32 → MS → Option (Int32 × MS)
  | 0, _, _, _, _, _, _ => none
  | n+1, x1, x2, x3, x5, x6, σ1 =>
    if x2 < x6 then
      if (x5 ≠ 0 ∧ x5 ≠ 1) then none else
      some (x5, σ1)
    else
      if x5 = 0 then
        b2 (FX11_holds x3 x6 σ1) fun r_27 σ_27 =>
        if r_27 = 0 then
          (FX11_isTrue_190 L n) x1 x2 x3 (0 : Int32) (x6 + (1 : Int32)) σ_27
        else
          b2 (FX11_isWithin x1 x6 x2 σ_27) fun r_29 σ_29 =>
          if r_29 = 0 then
            (FX11_isTrue_190 L n) x1 x2 x3 (0 : Int32) (x6 + (1 : Int32)) σ_29
          else
            (FX11_isTrue_190 L n) x1 x2 x3 (1 : Int32) (x6 + (1 : Int32)) σ_29
      else
        (FX11_isTrue_190 L n) x1 x2 x3 (1 : Int32) (x6 + (1 : Int32)) σ1
def FX11_isTrue (L : Nat) (p0 : Int32) (p1 : Int32) (σ : MS) : Option (Int32 × MS) :=
  if (p0 < 0 ∨ 1203 ≤ p0.toNatClampNeg) then none else
  if (p0 < 0 ∨ 1203 ≤ p0.toNatClampNeg) then none else
  if (p0 < 0 ∨ 1203 ≤ p0.toNatClampNeg) then none else
  if (σ.2.1 9 p0.toNatClampNeg) = 0 then
    b2 (FX11_holds (σ.2.1 10 p0.toNatClampNeg) p1 σ) fun r_5 σ_5 =>
    if r_5 = 0 then
      some ((1 : Int32), σ_5)
    else
      some ((0 : Int32), σ_5)
  else if (σ.2.1 9 p0.toNatClampNeg) = 1 then
    if p1 ≤ 0 then
      some ((0 : Int32), σ)
    else
      b2 (FX11_holds (σ.2.1 10 p0.toNatClampNeg) (p1 - (1 : Int32)) σ) fun r_9 σ_9 =>
      if r_9 = 0 then
        some ((0 : Int32), σ_9)
      else
        some ((1 : Int32), σ_9)
  else if (σ.2.1 9 p0.toNatClampNeg) = 2 then
    b2 (FX11_holds (σ.2.1 10 p0.toNatClampNeg) p1 σ) fun r_12 σ_12 =>
    if r_12 = 0 then
      some ((0 : Int32), σ_12)
    else
      if p1 = 0 then
        some ((1 : Int32), σ_12)
      else
        b2 (FX11_holds (σ.2.1 10 p0.toNatClampNeg) (p1 - (1 : Int32)) σ_12) fun r_15 σ_15 =>
        if r_15 = 0 then
          some ((1 : Int32), σ_15)
        else
          some ((0 : Int32), σ_15)
  else if (σ.2.1 9 p0.toNatClampNeg) = 3 then
    b2 (FX11_holds (σ.2.1 10 p0.toNatClampNeg) p1 σ) fun r_18 σ_18 =>
    if r_18 = 0 then
      if p1 ≤ 0 then
        some ((0 : Int32), σ_18)
      else
        b2 (FX11_holds (σ.2.1 10 p0.toNatClampNeg) (p1 - (1 : Int32)) σ_18) fun r_21 σ_21 =>
        if r_21 = 0 then
          some ((0 : Int32), σ_21)
        else
          some ((1 : Int32), σ_21)
    else
      some ((0 : Int32), σ_18)
  else if (σ.2.1 9 p0.toNatClampNeg) = 4 then
    FX11_isTrue_190 L L p0 p1 (σ.2.1 10 p0.toNatClampNeg) (0 : Int32) (0 : Int32) σ
  else if (σ.2.1 9 p0.toNatClampNeg) = 5 then
    b2 (FX11_firstMiss L p0 p1 σ) fun r_32 σ_32 =>
    if r_32 = (-1 : Int32) then
      some ((1 : Int32), σ_32)
    else
      some ((0 : Int32), σ_32)
  else if (σ.2.1 9 p0.toNatClampNeg) = 6 then
    some ((1 : Int32), σ)
  else if (σ.2.1 9 p0.toNatClampNeg) = 7 then
    some ((0 : Int32), σ)
  else if (σ.2.1 9 p0.toNatClampNeg) = 8 then
    b2 (FX11_holds (σ.2.1 10 p0.toNatClampNeg) p1 σ) fun r_37 σ_37 =>
    if (r_37 ≠ 0 ∧ r_37 ≠ 1) then none else
    some (r_37, σ_37)
  else if (σ.2.1 9 p0.toNatClampNeg) = 9 then
    if (p0 < 0 ∨ 1203 ≤ p0.toNatClampNeg) then none else
    b2 (FX11_at (σ.2.1 10 p0.toNatClampNeg) p1 σ) fun r_41 σ_41 =>
    b2 (FX11_at (σ.2.1 11 p0.toNatClampNeg) p1 σ_41) fun r_42 σ_42 =>
    (FX11_compared (σ.2.1 12 p0.toNatClampNeg) r_41 r_42).bind fun r_43 =>
    if (r_43 ≠ 0 ∧ r_43 ≠ 1) then none else
    some (r_43, σ_42)
  else if (σ.2.1 9 p0.toNatClampNeg) = 10 then
    b2 (FX11_isSince L p0 p1 σ) fun r_46 σ_46 =>
    if (r_46 ≠ 0 ∧ r_46 ≠ 1) then none else
    some (r_46, σ_46)
  else if (σ.2.1 9 p0.toNatClampNeg) = 11 then
    b2 (FX11_holds (σ.2.1 10 p0.toNatClampNeg) p1 σ) fun r_49 σ_49 =>
    if r_49 = 0 then
      some ((0 : Int32), σ_49)
    else
      b2 (FX11_holds (σ.2.1 11 p0.toNatClampNeg) p1 σ_49) fun r_51 σ_51 =>
      if r_51 = 0 then
        some ((0 : Int32), σ_51)
      else
        some ((1 : Int32), σ_51)
  else if (σ.2.1 9 p0.toNatClampNeg) = 12 then
    b2 (FX11_holds (σ.2.1 10 p0.toNatClampNeg) p1 σ) fun r_54 σ_54 =>
    if r_54 = 0 then
      b2 (FX11_holds (σ.2.1 11 p0.toNatClampNeg) p1 σ_54) fun r_56 σ_56 =>
      if r_56 = 0 then
        some ((0 : Int32), σ_56)
      else
        some ((1 : Int32), σ_56)
    else
      some ((1 : Int32), σ_54)
  else 
    b2 (FX11_holds (σ.2.1 10 p0.toNatClampNeg) p1 σ) fun r_58 σ_58 =>
    if r_58 = 0 then
      some ((1 : Int32), σ_58)
    else
      b2 (FX11_holds (σ.2.1 11 p0.toNatClampNeg) p1 σ_58) fun r_60 σ_60 =>
      if r_60 = 0 then
        some ((0 : Int32), σ_60)
      else
        some ((1 : Int32), σ_60)
def FX11_worth_161 (L : Nat)  : Nat → Int32 → Int32 → Int64 → Int32 → MS → Option (Int64 × MS)
  | 0, _, _, _, _, _ => none
  | n+1, x2, x3, x4, x6, σ1 =>
    if x2 < x6 then
      some (x4, σ1)
    else
      b2 (FX11_at x3 x6 σ1) fun r_27 σ_27 =>
      (FX11_worth_161 L n) x2 x3 (x4 + r_27) (x6 + (1 : Int32)) σ_27
def FX11_worth (L : Nat) (p0 : Int32) (p1 : Int32) (σ : MS) : Option (Int64 × MS) :=
  if (p0 < 0 ∨ 1203 ≤ p0.toNatClampNeg) then none else
  if (p0 < 0 ∨ 1203 ≤ p0.toNatClampNeg) then none else
  if (σ.2.1 9 p0.toNatClampNeg) = 20 then
    some ((σ.2.1 10 p0.toNatClampNeg).toInt64, σ)
  else if (σ.2.1 9 p0.toNatClampNeg) = 21 then
    if ((((8 : Int32) * p1) + (σ.2.1 10 p0.toNatClampNeg)) < 0 ∨ 960 ≤ (((8 : Int32) * p1) + (σ.2.1 10 p0.toNatClampNeg)).toNatClampNeg) then none else
    some ((σ.2.2 31 (((8 : Int32) * p1) + (σ.2.1 10 p0.toNatClampNeg)).toNatClampNeg), σ)
  else if (σ.2.1 9 p0.toNatClampNeg) = 22 then
    b2 (FX11_at (σ.2.1 10 p0.toNatClampNeg) p1 σ) fun r_7 σ_7 =>
    some (r_7, σ_7)
  else if (σ.2.1 9 p0.toNatClampNeg) = 23 then
    if (p1 < 0 ∨ 120 ≤ p1.toNatClampNeg) then none else
    some ((σ.2.1 30 p1.toNatClampNeg).toInt64, σ)
  else if (σ.2.1 9 p0.toNatClampNeg) = 24 then
    some (p1.toInt64, σ)
  else if (σ.2.1 9 p0.toNatClampNeg) = 25 then
    b2 (FX11_at (σ.2.1 10 p0.toNatClampNeg) p1 σ) fun r_12 σ_12 =>
    some ((-r_12), σ_12)
  else if (σ.2.1 9 p0.toNatClampNeg) = 26 then
    if p1 = 0 then
      some ((0 : Int64), σ)
    else
      b2 (FX11_at (σ.2.1 10 p0.toNatClampNeg) (p1 - (1 : Int32)) σ) fun r_15 σ_15 =>
      some (r_15, σ_15)
  else if (σ.2.1 9 p0.toNatClampNeg) = 27 then
    if (p0 < 0 ∨ 1203 ≤ p0.toNatClampNeg) then none else
    b2 (FX11_overAll L (σ.2.1 9 p0.toNatClampNeg) (σ.2.1 10 p0.toNatClampNeg) p1 σ) fun r_18 σ_18 =>
    some (r_18, σ_18)
  else if (σ.2.1 9 p0.toNatClampNeg) = 28 then
    if (p0 < 0 ∨ 1203 ≤ p0.toNatClampNeg) then none else
    b2 (FX11_overAll L (σ.2.1 9 p0.toNatClampNeg) (σ.2.1 10 p0.toNatClampNeg) p1 σ) fun r_21 σ_21 =>
    some (r_21, σ_21)
  else if (σ.2.1 9 p0.toNatClampNeg) = 29 then
    if (p0 < 0 ∨ 1203 ≤ p0.toNatClampNeg) then none else
    b2 (FX11_overAll L (σ.2.1 9 p0.toNatClampNeg) (σ.2.1 10 p0.toNatClampNeg) p1 σ) fun r_24 σ_24 =>
    some (r_24, σ_24)
  else if (σ.2.1 9 p0.toNatClampNeg) = 30 then
    FX11_worth_161 L L p1 (σ.2.1 10 p0.toNatClampNeg) (0 : Int64) (0 : Int32) σ
  else if (σ.2.1 9 p0.toNatClampNeg) = 31 then
    b2 (FX11_lastHolding L (σ.2.1 10 p0.toNatClampNeg) p1 σ) fun r_29 σ_29 =>
    if r_29 = (-1 : Int32) then
      some ((-1 : Int64), σ_29)
    else
      if (p1 < 0 ∨ 120 ≤ p1.toNatClampNeg) then none else
      b2 (FX11_lastHolding L (σ.2.1 10 p0.toNatClampNeg) p1 σ_29) fun r_32 σ_32 =>
      if (r_32 < 0 ∨ 120 ≤ r_32.toNatClampNeg) then none else
      some (((σ_29.2.1 30 p1.toNatClampNeg) - (σ_32.2.1 30 r_32.toNatClampNeg)).toInt64, σ_32)
  else if (σ.2.1 9 p0.toNatClampNeg) = 32 then
    b2 (FX11_lastHolding L (σ.2.1 10 p0.toNatClampNeg) p1 σ) fun r_35 σ_35 =>
    if r_35 = (-1 : Int32) then
      some ((0 : Int64), σ_35)
    else
      if (p0 < 0 ∨ 1203 ≤ p0.toNatClampNeg) then none else
      b2 (FX11_lastHolding L (σ.2.1 10 p0.toNatClampNeg) p1 σ_35) fun r_38 σ_38 =>
      b2 (FX11_at (σ_35.2.1 11 p0.toNatClampNeg) r_38 σ_38) fun r_39 σ_39 =>
      some (r_39, σ_39)
  else if (σ.2.1 9 p0.toNatClampNeg) = 33 then
    b2 (FX11_holds (σ.2.1 10 p0.toNatClampNeg) p1 σ) fun r_41 σ_41 =>
    if r_41 = 0 then
      if (p0 < 0 ∨ 1203 ≤ p0.toNatClampNeg) then none else
      b2 (FX11_at (σ_41.2.1 12 p0.toNatClampNeg) p1 σ_41) fun r_44 σ_44 =>
      some (r_44, σ_44)
    else
      if (p0 < 0 ∨ 1203 ≤ p0.toNatClampNeg) then none else
      b2 (FX11_at (σ_41.2.1 11 p0.toNatClampNeg) p1 σ_41) fun r_46 σ_46 =>
      some (r_46, σ_46)
  else 
    if (p0 < 0 ∨ 1203 ≤ p0.toNatClampNeg) then none else
    b2 (FX11_at (σ.2.1 10 p0.toNatClampNeg) p1 σ) fun r_48 σ_48 =>
    if (p0 < 0 ∨ 1203 ≤ p0.toNatClampNeg) then none else
    b2 (FX11_at (σ_48.2.1 11 p0.toNatClampNeg) p1 σ_48) fun r_50 σ_50 =>
    (FX11_both (σ.2.1 12 p0.toNatClampNeg) r_48 r_50).bind fun r_51 =>
    some (r_51, σ_50)
def FX11_reckon_3 (L : Nat)  : Nat → Int32 → Int32 → Int32 → MS → Option (Unit × MS)
  | 0, _, _, _, _ => none
  | n+1, x2, x3, x4, σ1 =>
    if x2 ≤ x4 then
      some ((), σ1)
    else
      if (x4 < 0 ∨ 1203 ≤ x4.toNatClampNeg) then none else
      if (20 : Int32) ≤ (σ1.2.1 9 x4.toNatClampNeg) then
        b2 (FX11_worth L x4 x3 σ1) fun r_4 σ_4 =>
        if ((((120 : Int32) * x4) + x3) < 0 ∨ 144360 ≤ (((120 : Int32) * x4) + x3).toNatClampNeg) then none else
        (FX11_reckon_3 L n) x2 x3 (x4 + (1 : Int32)) (sB σ_4 16 (vp_updL (σ_4.2.2 16) (((120 : Int32) * x4) + x3).toNatClampNeg r_4))
      else
        b2 (FX11_isTrue L x4 x3 σ1) fun r_6 σ_6 =>
        (FX11_truth r_6).bind fun r_7 =>
        if ((((120 : Int32) * x4) + x3) < 0 ∨ 144360 ≤ (((120 : Int32) * x4) + x3).toNatClampNeg) then none else
        (FX11_reckon_3 L n) x2 x3 (x4 + (1 : Int32)) (sB σ_6 16 (vp_updL (σ_6.2.2 16) (((120 : Int32) * x4) + x3).toNatClampNeg r_7))
def FX11_reckon (L : Nat) (p0 : Int32) (p1 : Int32) (p2 : Int32) (σ : MS) : Option (Unit × MS) :=
  FX11_reckon_3 L L p1 p2 p0 σ
def FX11_forget_12 (L : Nat)  : Nat → Int32 → MS → Option (Unit × MS)
  | 0, _, _ => none
  | n+1, x1, σ1 =>
    if (4 : Int32) ≤ x1 then
      some ((), (sI (sI (sI (sI σ1 8 (0 : Int32)) 27 (0 : Int32)) 28 (-1 : Int32)) 29 (0 : Int32)))
    else
      if (x1 < 0 ∨ 4 ≤ x1.toNatClampNeg) then none else
      (FX11_forget_12 L n) (x1 + (1 : Int32)) (sA σ1 23 (upd (σ1.2.1 23) x1.toNatClampNeg (0 : Int32)))
def FX11_forget (L : Nat)  (σ : MS) : Option (Unit × MS) :=
  FX11_forget_12 L L (0 : Int32) (sI (sI σ 18 (0 : Int32)) 19 (0 : Int32))
def FX11_begin_7 (L : Nat)  : Nat → Int32 → MS → Option (Unit × MS)
  | 0, _, _ => none
  | n+1, x1, σ1 =>
    if ((0 : Int32) < 0 ∨ 4 ≤ (0 : Int32).toNatClampNeg) then none else
    if (σ1.2.1 23 (0 : Int32).toNatClampNeg) ≤ x1 then
      some ((), σ1)
    else
      if (x1 < 0 ∨ 8 ≤ x1.toNatClampNeg) then none else
      if (x1 < 0 ∨ 8 ≤ x1.toNatClampNeg) then none else
      (FX11_begin_7 L n) (x1 + (1 : Int32)) (sB σ1 32 (vp_updL (σ1.2.2 32) x1.toNatClampNeg (σ1.2.2 24 x1.toNatClampNeg)))
def FX11_begin (L : Nat)  (σ : MS) : Option (Unit × MS) :=
  FX11_begin_7 L L (0 : Int32) (sI σ 29 (0 : Int32))
def FX11_set_22  (x1 : Int32) (x2 : Int64) (y1 : Int32) (σ1 : MS) : Option (Int64 × MS) :=
    if y1 = 0 then
      if (x1 < 0 ∨ 8 ≤ x1.toNatClampNeg) then none else
      if (x1 < 0 ∨ 8 ≤ x1.toNatClampNeg) then none else
      some ((σ1.2.2 32 x1.toNatClampNeg), (sB (sI σ1 0 y1) 32 (vp_updL (σ1.2.2 32) x1.toNatClampNeg x2)))
    else
      some ((0 : Int64), (sI σ1 0 y1))
def FX11_set (p0 : Int32) (p1 : Int64) (σ : MS) : Option (Int64 × MS) :=
  if ((0 : Int32) < 0 ∨ 4 ≤ (0 : Int32).toNatClampNeg) then none else
  (FX11_isIn p0 (0 : Int32) ((σ.2.1 23 (0 : Int32).toNatClampNeg) - (1 : Int32))).bind fun r_2 =>
  if r_2 = 0 then
    FX11_set_22 p0 p1 (1 : Int32) σ
  else
    FX11_set_22 p0 p1 (0 : Int32) σ
def FX11_step_65 (L : Nat)  : Nat → Int32 → Int32 → MS → Option (Int32 × MS)
  | 0, _, _, _ => none
  | n+1, x2, x3, σ1 =>
    if ((3 : Int32) < 0 ∨ 4 ≤ (3 : Int32).toNatClampNeg) then none else
    if (σ1.2.1 23 (3 : Int32).toNatClampNeg) ≤ x3 then
      some (x2, (sI σ1 29 ((σ1.1 29) + (1 : Int32))))
    else
      b2 (FX11_watches x3 (σ1.1 29) σ1) fun r_7 σ_7 =>
      if r_7 = 0 then
        (FX11_step_65 L n) (x2 + (1 : Int32)) (x3 + (1 : Int32)) σ_7
      else
        (FX11_step_65 L n) (x2 + (0 : Int32)) (x3 + (1 : Int32)) σ_7
def FX11_step_12 (L : Nat)  : Nat → Int32 → MS → Option (Int32 × MS)
  | 0, _, _ => none
  | n+1, x2, σ1 =>
    if ((0 : Int32) < 0 ∨ 4 ≤ (0 : Int32).toNatClampNeg) then none else
    if (σ1.2.1 23 (0 : Int32).toNatClampNeg) ≤ x2 then
      b2 (FX11_reckon L (0 : Int32) (σ1.1 27) (σ1.1 29) σ1) fun (_ : Unit) σ_4 =>
      FX11_step_65 L L (0 : Int32) (0 : Int32) σ_4
    else
      if (x2 < 0 ∨ 8 ≤ x2.toNatClampNeg) then none else
      if ((((8 : Int32) * (σ1.1 29)) + x2) < 0 ∨ 960 ≤ (((8 : Int32) * (σ1.1 29)) + x2).toNatClampNeg) then none else
      (FX11_step_12 L n) (x2 + (1 : Int32)) (sB σ1 31 (vp_updL (σ1.2.2 31) (((8 : Int32) * (σ1.1 29)) + x2).toNatClampNeg (σ1.2.2 32 x2.toNatClampNeg)))
def FX11_step (L : Nat) (p0 : Int32) (σ : MS) : Option (Int32 × MS) :=
  if ((σ.1 29) < 0 ∨ 120 ≤ (σ.1 29).toNatClampNeg) then none else
  FX11_step_12 L L (0 : Int32) (sA σ 30 (upd (σ.2.1 30) (σ.1 29).toNatClampNeg p0))
def FX11_tick_38 (L : Nat)   (σ1 : MS) : Option (Int32 × MS) :=
    b2 (FX11_no (2 : Int32) σ1) fun r_4 σ_4 =>
    some (r_4, σ_4)
def FX11_tick_67 (L : Nat)  (x1 : Int32) (y1 : Int32) (σ1 : MS) : Option (Int32 × MS) :=
    b2 (FX11_step L (y1 + x1) σ1) fun r_8 σ_8 =>
    some (r_8, σ_8)
def FX11_tick (L : Nat) (p0 : Int32) (σ : MS) : Option (Int32 × MS) :=
  (FX11_isIn p0 (0 : Int32) (1000 : Int32)).bind fun r_1 =>
  if r_1 = 0 then
    b2 (FX11_no (1 : Int32) (sI σ 0 (0 : Int32))) fun r_9 σ_9 =>
    some (r_9, σ_9)
  else
    if (σ.1 18) = 0 then
      FX11_tick_38 L (sI σ 0 (0 : Int32))
    else
      if (σ.1 29) = (120 : Int32) then
        FX11_tick_38 L (sI σ 0 (0 : Int32))
      else
        if (σ.1 29) = 0 then
          FX11_tick_67 L p0 (0 : Int32) (sI σ 0 (0 : Int32))
        else
          if (((σ.1 29) - (1 : Int32)) < 0 ∨ 120 ≤ ((σ.1 29) - (1 : Int32)).toNatClampNeg) then none else
          FX11_tick_67 L p0 (σ.2.1 30 ((σ.1 29) - (1 : Int32)).toNatClampNeg) (sI σ 0 (0 : Int32))
def FX11_back (p0 : Int32) (σ : MS) : Option (Int32 × MS) :=
  (FX11_isIn p0 (0 : Int32) (σ.1 29)).bind fun r_1 =>
  if r_1 = 0 then
    b2 (FX11_no (1 : Int32) (sI σ 0 (0 : Int32))) fun r_5 σ_5 =>
    some (r_5, σ_5)
  else
    if p0 = 0 then
      some ((0 : Int32), (sI (sI σ 0 (0 : Int32)) 29 p0))
    else
      if ((p0 - (1 : Int32)) < 0 ∨ 120 ≤ (p0 - (1 : Int32)).toNatClampNeg) then none else
      some ((σ.2.1 30 (p0 - (1 : Int32)).toNatClampNeg), (sI (sI σ 0 (0 : Int32)) 29 p0))
def FX11_restart (L : Nat)  (σ : MS) : Option (Int32 × MS) :=
  if (σ.1 18) = 0 then
    b2 (FX11_no (1 : Int32) (sI σ 0 (0 : Int32))) fun r_4 σ_4 =>
    some (r_4, σ_4)
  else
    b2 (FX11_begin L (sI σ 0 (0 : Int32))) fun (_ : Unit) σ_2 =>
    if ((3 : Int32) < 0 ∨ 4 ≤ (3 : Int32).toNatClampNeg) then none else
    some ((σ_2.2.1 23 (3 : Int32).toNatClampNeg), σ_2)
def FX11_replay_36 (L : Nat) (k26 : Int32 → Int32 → MS → Option (Int32 × MS)) : Nat → Int32 → Int32 → Int32 → MS → Option (Int32 × MS)
  | 0, _, _, _, _ => none
  | n+1, x1, x2, x3, σ1 =>
    if ((0 : Int32) < 0 ∨ 4 ≤ (0 : Int32).toNatClampNeg) then none else
    if (if (σ1.1 34) < (σ1.2.1 23 (0 : Int32).toNatClampNeg) then (σ1.1 34) else (σ1.2.1 23 (0 : Int32).toNatClampNeg)) ≤ x3 then
      if (x2 < 0 ∨ 120 ≤ x2.toNatClampNeg) then none else
      b2 (FX11_step L (σ1.2.1 35 x2.toNatClampNeg) σ1) fun r_7 σ_7 =>
      if r_7 = 0 then
        k26 (x1 + (1 : Int32)) (x2 + (1 : Int32)) σ_7
      else
        k26 (x1 + (0 : Int32)) (x2 + (1 : Int32)) σ_7
    else
      if ((((8 : Int32) * x2) + x3) < 0 ∨ 960 ≤ (((8 : Int32) * x2) + x3).toNatClampNeg) then none else
      if (x3 < 0 ∨ 8 ≤ x3.toNatClampNeg) then none else
      (FX11_replay_36 L k26 n) x1 x2 (x3 + (1 : Int32)) (sB σ1 32 (vp_updL (σ1.2.2 32) x3.toNatClampNeg (σ1.2.2 36 (((8 : Int32) * x2) + x3).toNatClampNeg)))
def FX11_replay_26 (L : Nat)  : Nat → Int32 → Int32 → MS → Option (Int32 × MS)
  | 0, _, _, _ => none
  | n+1, x1, x2, σ1 =>
    if (σ1.1 33) ≤ x2 then
      some (x1, σ1)
    else
      FX11_replay_36 L (FX11_replay_26 L n) L x1 x2 (0 : Int32) σ1
def FX11_replay (L : Nat)  (σ : MS) : Option (Int32 × MS) :=
  if (σ.1 18) = 0 then
    b2 (FX11_no (1 : Int32) (sI σ 0 (0 : Int32))) fun r_11 σ_11 =>
    some (r_11, σ_11)
  else
    b2 (FX11_begin L (sI σ 0 (0 : Int32))) fun (_ : Unit) σ_2 =>
    FX11_replay_26 L L (0 : Int32) (0 : Int32) σ_2
def FX11_time (p0 : Int32) (σ : MS) : Option (Int32 × MS) :=
  b2 (FX11_isStep p0 (sI σ 0 (0 : Int32))) fun r_1 σ_1 =>
  if r_1 = 0 then
    b2 (FX11_no (1 : Int32) σ_1) fun r_3 σ_3 =>
    some (r_3, σ_3)
  else
    if (p0 < 0 ∨ 120 ≤ p0.toNatClampNeg) then none else
    some ((σ_1.2.1 30 p0.toNatClampNeg), σ_1)
def FX11_signal_30  (x1 : Int32) (x2 : Int32) (y1 : Int32) (σ1 : MS) : Option (Int64 × MS) :=
    if y1 = 0 then
      if ((((8 : Int32) * x2) + x1) < 0 ∨ 960 ≤ (((8 : Int32) * x2) + x1).toNatClampNeg) then none else
      some ((σ1.2.2 31 (((8 : Int32) * x2) + x1).toNatClampNeg), (sI σ1 0 y1))
    else
      some ((0 : Int64), (sI σ1 0 y1))
def FX11_signal_29  (x1 : Int32) (x2 : Int32) (σ1 : MS) : Option (Int64 × MS) :=
    FX11_signal_30 x1 x2 (1 : Int32) σ1
def FX11_signal (p0 : Int32) (p1 : Int32) (σ : MS) : Option (Int64 × MS) :=
  if ((0 : Int32) < 0 ∨ 4 ≤ (0 : Int32).toNatClampNeg) then none else
  (FX11_isIn p0 (0 : Int32) ((σ.2.1 23 (0 : Int32).toNatClampNeg) - (1 : Int32))).bind fun r_2 =>
  if r_2 = 0 then
    FX11_signal_29 p0 p1 σ
  else
    b2 (FX11_isStep p1 σ) fun r_6 σ_6 =>
    if r_6 = 0 then
      FX11_signal_29 p0 p1 σ_6
    else
      FX11_signal_30 p0 p1 (0 : Int32) σ_6
def FX11_value_30  (x1 : Int32) (x2 : Int32) (y1 : Int32) (σ1 : MS) : Option (Int64 × MS) :=
    if y1 = 0 then
      if (((24 : Int32) + x1) < 0 ∨ 48 ≤ ((24 : Int32) + x1).toNatClampNeg) then none else
      b2 (FX11_at (σ1.2.1 25 ((24 : Int32) + x1).toNatClampNeg) x2 (sI σ1 0 y1)) fun r_6 σ_6 =>
      some (r_6, σ_6)
    else
      some ((0 : Int64), (sI σ1 0 y1))
def FX11_value_29  (x1 : Int32) (x2 : Int32) (σ1 : MS) : Option (Int64 × MS) :=
    FX11_value_30 x1 x2 (1 : Int32) σ1
def FX11_value (p0 : Int32) (p1 : Int32) (σ : MS) : Option (Int64 × MS) :=
  if ((2 : Int32) < 0 ∨ 4 ≤ (2 : Int32).toNatClampNeg) then none else
  (FX11_isIn p0 (0 : Int32) ((σ.2.1 23 (2 : Int32).toNatClampNeg) - (1 : Int32))).bind fun r_2 =>
  if r_2 = 0 then
    FX11_value_29 p0 p1 σ
  else
    b2 (FX11_isStep p1 σ) fun r_7 σ_7 =>
    if r_7 = 0 then
      FX11_value_29 p0 p1 σ_7
    else
      FX11_value_30 p0 p1 (0 : Int32) σ_7
def FX11_let_30  (x1 : Int32) (x2 : Int32) (y1 : Int32) (σ1 : MS) : Option (Int32 × MS) :=
    if y1 = 0 then
      if (((12 : Int32) + x1) < 0 ∨ 48 ≤ ((12 : Int32) + x1).toNatClampNeg) then none else
      b2 (FX11_holds (σ1.2.1 25 ((12 : Int32) + x1).toNatClampNeg) x2 (sI σ1 0 y1)) fun r_6 σ_6 =>
      if r_6 = 0 then
        some ((0 : Int32), σ_6)
      else
        some ((1 : Int32), σ_6)
    else
      some ((0 : Int32), (sI σ1 0 y1))
def FX11_let_29  (x1 : Int32) (x2 : Int32) (σ1 : MS) : Option (Int32 × MS) :=
    FX11_let_30 x1 x2 (1 : Int32) σ1
def FX11_let (p0 : Int32) (p1 : Int32) (σ : MS) : Option (Int32 × MS) :=
  if ((1 : Int32) < 0 ∨ 4 ≤ (1 : Int32).toNatClampNeg) then none else
  (FX11_isIn p0 (0 : Int32) ((σ.2.1 23 (1 : Int32).toNatClampNeg) - (1 : Int32))).bind fun r_2 =>
  if r_2 = 0 then
    FX11_let_29 p0 p1 σ
  else
    b2 (FX11_isStep p1 σ) fun r_8 σ_8 =>
    if r_8 = 0 then
      FX11_let_29 p0 p1 σ_8
    else
      FX11_let_30 p0 p1 (0 : Int32) σ_8
def FX11_watch_22  (x1 : Int32) (x2 : Int32) (y1 : Int32) (σ1 : MS) : Option (Int32 × MS) :=
    if y1 = 0 then
      b2 (FX11_watches x1 x2 (sI σ1 0 y1)) fun r_4 σ_4 =>
      if r_4 = 0 then
        some ((0 : Int32), σ_4)
      else
        some ((1 : Int32), σ_4)
    else
      some ((0 : Int32), (sI σ1 0 y1))
def FX11_watch_21  (x1 : Int32) (x2 : Int32) (σ1 : MS) : Option (Int32 × MS) :=
    FX11_watch_22 x1 x2 (1 : Int32) σ1
def FX11_watch (p0 : Int32) (p1 : Int32) (σ : MS) : Option (Int32 × MS) :=
  b2 (FX11_isWatch p0 σ) fun r_1 σ_1 =>
  if r_1 = 0 then
    FX11_watch_21 p0 p1 σ_1
  else
    b2 (FX11_isStep p1 σ_1) fun r_6 σ_6 =>
    if r_6 = 0 then
      FX11_watch_21 p0 p1 σ_6
    else
      FX11_watch_22 p0 p1 (0 : Int32) σ_6
def FX11_toldOf_67 (L : Nat) (k14 : Int32 → Int32 → Int32 → Int32 → Int32 → Int32 → Int32 → MS → Option (Int32 × MS)) (x1 : Int32) (x2 : Int32) (x4 : Int32) (x5 : Int32) (x6 : Int32) (x7 : Int32) (x8 : Int32) (y0 : Int32) (y1 : Int32) (σ1 : MS) : Option (Int32 × MS) :=
    if x8 = 0 then
      if x4 = (-1 : Int32) then
        k14 x1 x2 (y0 + y1) x7 x5 x6 (x7 + (1 : Int32)) σ1
      else
        k14 x1 x2 (y0 + y1) x4 x5 x6 (x7 + (1 : Int32)) σ1
    else
      k14 x1 x2 (y0 + y1) x4 x5 x6 (x7 + (1 : Int32)) σ1
def FX11_toldOf_45 (L : Nat) (k14 : Int32 → Int32 → Int32 → Int32 → Int32 → Int32 → Int32 → MS → Option (Int32 × MS)) (x1 : Int32) (x2 : Int32) (x3 : Int32) (x4 : Int32) (x6 : Int32) (x7 : Int32) (x8 : Int32) (y0 : Int32) (σ1 : MS) : Option (Int32 × MS) :=
    if x8 = 0 then
      FX11_toldOf_67 L k14 x1 x2 x4 y0 (if x6 < y0 then y0 else x6) x7 x8 x3 (1 : Int32) σ1
    else
      FX11_toldOf_67 L k14 x1 x2 x4 y0 (if x6 < y0 then y0 else x6) x7 x8 x3 (0 : Int32) σ1
def FX11_toldOf_14 (L : Nat)  : Nat → Int32 → Int32 → Int32 → Int32 → Int32 → Int32 → Int32 → MS → Option (Int32 × MS)
  | 0, _, _, _, _, _, _, _, _ => none
  | n+1, x1, x2, x3, x4, x5, x6, x7, σ1 =>
    if (σ1.1 29) ≤ x7 then
      if x2 = 0 then
        if (x1 < 0 ∨ 12 ≤ x1.toNatClampNeg) then none else
        some ((σ1.2.1 26 x1.toNatClampNeg), σ1)
      else
        if x2 = (1 : Int32) then
          some (x3, σ1)
        else
          if x2 = (2 : Int32) then
            some (x4, σ1)
          else
            if x2 = (3 : Int32) then
              some (x6, σ1)
            else
              some (x5, σ1)
    else
      b2 (FX11_watches x1 x7 σ1) fun r_7 σ_7 =>
      if r_7 = 0 then
        FX11_toldOf_45 L (FX11_toldOf_14 L n) x1 x2 x3 x4 x6 x7 r_7 (x5 + (1 : Int32)) σ_7
      else
        FX11_toldOf_45 L (FX11_toldOf_14 L n) x1 x2 x3 x4 x6 x7 r_7 (0 : Int32) σ_7
def FX11_toldOf (L : Nat) (p0 : Int32) (p1 : Int32) (σ : MS) : Option (Int32 × MS) :=
  FX11_toldOf_14 L L p0 p1 (0 : Int32) (-1 : Int32) (0 : Int32) (0 : Int32) (0 : Int32) σ
def FX11_told_31 (L : Nat)   (σ1 : MS) : Option (Int32 × MS) :=
    b2 (FX11_no (1 : Int32) σ1) fun r_3 σ_3 =>
    some (r_3, σ_3)
def FX11_told (L : Nat) (p0 : Int32) (p1 : Int32) (σ : MS) : Option (Int32 × MS) :=
  b2 (FX11_isWatch p0 (sI σ 0 (0 : Int32))) fun r_1 σ_1 =>
  if r_1 = 0 then
    FX11_told_31 L σ_1
  else
    (FX11_isIn p1 (0 : Int32) (4 : Int32)).bind fun r_4 =>
    if r_4 = 0 then
      FX11_told_31 L σ_1
    else
      b2 (FX11_toldOf L p0 p1 σ_1) fun r_6 σ_6 =>
      some (r_6, σ_6)
def FX11_alarms_25 (L : Nat)  : Nat → Int32 → Int32 → Int32 → MS → Option (Int32 × MS)
  | 0, _, _, _, _ => none
  | n+1, x1, x2, x3, σ1 =>
    if ((3 : Int32) < 0 ∨ 4 ≤ (3 : Int32).toNatClampNeg) then none else
    if (σ1.2.1 23 (3 : Int32).toNatClampNeg) ≤ x3 then
      some (x2, σ1)
    else
      if (σ1.1 29) ≤ 0 then
        (FX11_alarms_25 L n) x1 (x2 + (0 : Int32)) (x3 + (1 : Int32)) σ1
      else
        if (x3 < 0 ∨ 12 ≤ x3.toNatClampNeg) then none else
        if (σ1.2.1 26 x3.toNatClampNeg) < x1 then
          (FX11_alarms_25 L n) x1 (x2 + (0 : Int32)) (x3 + (1 : Int32)) σ1
        else
          b2 (FX11_watches x3 ((σ1.1 29) - (1 : Int32)) σ1) fun r_8 σ_8 =>
          if r_8 = 0 then
            (FX11_alarms_25 L n) x1 (x2 + (1 : Int32)) (x3 + (1 : Int32)) σ_8
          else
            (FX11_alarms_25 L n) x1 (x2 + (0 : Int32)) (x3 + (1 : Int32)) σ_8
def FX11_alarms (L : Nat) (p0 : Int32) (σ : MS) : Option (Int32 × MS) :=
  (FX11_isIn p0 (0 : Int32) (9 : Int32)).bind fun r_1 =>
  if r_1 = 0 then
    b2 (FX11_no (1 : Int32) (sI σ 0 (0 : Int32))) fun r_10 σ_10 =>
    some (r_10, σ_10)
  else
    FX11_alarms_25 L L p0 (0 : Int32) (0 : Int32) (sI σ 0 (0 : Int32))
def FX11_differ_21 (L : Nat)   (σ1 : MS) : Option (Int32 × MS) :=
    b2 (FX11_no (1 : Int32) σ1) fun r_3 σ_3 =>
    some (r_3, σ_3)
def FX11_differ_29 (L : Nat)  : Nat → Int32 → Int32 → Int32 → MS → Option (Int32 × MS)
  | 0, _, _, _, _ => none
  | n+1, x1, x2, x3, σ1 =>
    if (σ1.1 29) ≤ x3 then
      some ((-1 : Int32), σ1)
    else
      b2 (FX11_watches x1 x3 σ1) fun r_7 σ_7 =>
      b2 (FX11_watches x2 x3 σ_7) fun r_8 σ_8 =>
      if r_7 = r_8 then
        (FX11_differ_29 L n) x1 x2 (x3 + (1 : Int32)) σ_8
      else
        some (x3, σ_8)
def FX11_differ (L : Nat) (p0 : Int32) (p1 : Int32) (σ : MS) : Option (Int32 × MS) :=
  b2 (FX11_isWatch p0 (sI σ 0 (0 : Int32))) fun r_1 σ_1 =>
  if r_1 = 0 then
    FX11_differ_21 L σ_1
  else
    b2 (FX11_isWatch p1 σ_1) fun r_4 σ_4 =>
    if r_4 = 0 then
      FX11_differ_21 L σ_4
    else
      FX11_differ_29 L L p0 p1 (0 : Int32) σ_4
def FX11_share_14 (L : Nat)  (x1 : Int32) (y1 : Int32) (σ1 : MS) : Option (UInt64 × MS) :=
    if y1 = 0 then
      if (σ1.1 29) = 0 then
        some (FP.dconst1, (sI σ1 0 y1))
      else
        b2 (FX11_toldOf L x1 (1 : Int32) (sI σ1 0 y1)) fun r_5 σ_5 =>
        if (¬ ((FP.ddiv (FP.i2d ((σ1.1 29) - r_5)) (FP.i2d (σ_5.1 29))) &&& 0x7fffffffffffffff ≤ 0x7ff0000000000000)) then none else
        some ((FP.ddiv (FP.i2d ((σ1.1 29) - r_5)) (FP.i2d (σ_5.1 29))), σ_5)
    else
      some (FP.dconst0, (sI σ1 0 y1))
def FX11_share (L : Nat) (p0 : Int32) (σ : MS) : Option (UInt64 × MS) :=
  b2 (FX11_isWatch p0 σ) fun r_1 σ_1 =>
  if r_1 = 0 then
    FX11_share_14 L p0 (1 : Int32) σ_1
  else
    FX11_share_14 L p0 (0 : Int32) σ_1
def FX11_node (p0 : Int32) (p1 : Int32) (p2 : Int32) (p3 : Int32) (p4 : Int32) (σ : MS) : Option (Int32 × MS) :=
  if ((σ.1 8) < 0 ∨ 1203 ≤ (σ.1 8).toNatClampNeg) then none else
  if ((σ.1 8) < 0 ∨ 1203 ≤ (σ.1 8).toNatClampNeg) then none else
  if ((σ.1 8) < 0 ∨ 1203 ≤ (σ.1 8).toNatClampNeg) then none else
  if ((σ.1 8) < 0 ∨ 1203 ≤ (σ.1 8).toNatClampNeg) then none else
  if ((σ.1 8) < 0 ∨ 1203 ≤ (σ.1 8).toNatClampNeg) then none else
  if ((σ.1 8) < 0 ∨ 1203 ≤ (σ.1 8).toNatClampNeg) then none else
  if ((σ.1 8) < 0 ∨ 1203 ≤ (σ.1 8).toNatClampNeg) then none else
  some ((0 : Int32), (sI (sI (sA (sA (sA (sA (sA (sA (sA σ 9 (upd (σ.2.1 9) (σ.1 8).toNatClampNeg p0)) 10 (upd (σ.2.1 10) (σ.1 8).toNatClampNeg p1)) 11 (upd (σ.2.1 11) (σ.1 8).toNatClampNeg p2)) 12 (upd (σ.2.1 12) (σ.1 8).toNatClampNeg p3)) 13 (upd (σ.2.1 13) (σ.1 8).toNatClampNeg (0 : Int32))) 14 (upd (σ.2.1 14) (σ.1 8).toNatClampNeg (-1 : Int32))) 15 (upd (σ.2.1 15) (σ.1 8).toNatClampNeg p4)) 17 (σ.1 8)) 8 ((σ.1 8) + (1 : Int32))))
def FX11_answer_40 (L : Nat)  : Nat → Int32 → Int32 → MS → Option (Int32 × MS)
  | 0, _, _, _ => none
  | n+1, x1, x2, σ1 =>
    if x1 < x2 then
      b2 (FX11_holds (σ1.1 28) x1 σ1) fun r_6 σ_6 =>
      if (r_6 ≠ 0 ∧ r_6 ≠ 1) then none else
      some (r_6, σ_6)
    else
      b2 (FX11_reckon L (σ1.1 27) (σ1.1 40) x2 σ1) fun (_ : Unit) σ_8 =>
      (FX11_answer_40 L n) x1 (x2 + (1 : Int32)) σ_8
def FX11_answer (L : Nat) (p0 : Int32) (σ : MS) : Option (Int32 × MS) :=
  b2 (FX11_isStep p0 σ) fun r_1 σ_1 =>
  if r_1 = 0 then
    some ((0 : Int32), (sI σ_1 0 (1 : Int32)))
  else
    if (σ_1.1 28) = (-1 : Int32) then
      some ((0 : Int32), (sI σ_1 0 (2 : Int32)))
    else
      FX11_answer_40 L L p0 (0 : Int32) (sI σ_1 0 (0 : Int32))
def FX11_digest_281 (L : Nat)  : Nat → Int64 → Int32 → MS → Option (Int64 × MS)
  | 0, _, _, _ => none
  | n+1, x1, x3, σ1 =>
    if ((0 : Int32) < 0 ∨ 4 ≤ (0 : Int32).toNatClampNeg) then none else
    if (σ1.2.1 23 (0 : Int32).toNatClampNeg) ≤ x3 then
      some (x1, σ1)
    else
      if (x3 < 0 ∨ 8 ≤ x3.toNatClampNeg) then none else
      (FX11_digest_281 L n) ((x1 * (31 : Int64)) + (σ1.2.2 32 x3.toNatClampNeg)) (x3 + (1 : Int32)) σ1
def FX11_digest_246 (L : Nat) (k233 : Int64 → Int32 → MS → Option (Int64 × MS)) : Nat → Int64 → Int32 → Int32 → MS → Option (Int64 × MS)
  | 0, _, _, _, _ => none
  | n+1, x1, x3, x4, σ1 =>
    if (5 : Int32) ≤ x4 then
      k233 x1 (x3 + (1 : Int32)) σ1
    else
      b2 (FX11_toldOf L x3 x4 σ1) fun r_9 σ_9 =>
      (FX11_digest_246 L k233 n) ((x1 * (31 : Int64)) + r_9.toInt64) x3 (x4 + (1 : Int32)) σ_9
def FX11_digest_233 (L : Nat)  : Nat → Int64 → Int32 → MS → Option (Int64 × MS)
  | 0, _, _, _ => none
  | n+1, x1, x3, σ1 =>
    if ((3 : Int32) < 0 ∨ 4 ≤ (3 : Int32).toNatClampNeg) then none else
    if (σ1.2.1 23 (3 : Int32).toNatClampNeg) ≤ x3 then
      FX11_digest_281 L L x1 (0 : Int32) σ1
    else
      FX11_digest_246 L (FX11_digest_233 L n) L x1 x3 (0 : Int32) σ1
def FX11_digest_186 (L : Nat) (k38 : Int64 → Int32 → MS → Option (Int64 × MS)) : Nat → Int64 → Int32 → Int32 → MS → Option (Int64 × MS)
  | 0, _, _, _, _ => none
  | n+1, x1, x3, x4, σ1 =>
    if ((3 : Int32) < 0 ∨ 4 ≤ (3 : Int32).toNatClampNeg) then none else
    if (σ1.2.1 23 (3 : Int32).toNatClampNeg) ≤ x4 then
      k38 x1 (x3 + (1 : Int32)) σ1
    else
      if (((36 : Int32) + x4) < 0 ∨ 48 ≤ ((36 : Int32) + x4).toNatClampNeg) then none else
      b2 (FX11_at (σ1.2.1 25 ((36 : Int32) + x4).toNatClampNeg) x3 σ1) fun r_20 σ_20 =>
      (FX11_digest_186 L k38 n) ((x1 * (31 : Int64)) + r_20) x3 (x4 + (1 : Int32)) σ_20
def FX11_digest_144 (L : Nat) (k38 : Int64 → Int32 → MS → Option (Int64 × MS)) : Nat → Int64 → Int32 → Int32 → MS → Option (Int64 × MS)
  | 0, _, _, _, _ => none
  | n+1, x1, x3, x4, σ1 =>
    if ((1 : Int32) < 0 ∨ 4 ≤ (1 : Int32).toNatClampNeg) then none else
    if (σ1.2.1 23 (1 : Int32).toNatClampNeg) ≤ x4 then
      FX11_digest_186 L k38 L x1 x3 (0 : Int32) σ1
    else
      if (((12 : Int32) + x4) < 0 ∨ 48 ≤ ((12 : Int32) + x4).toNatClampNeg) then none else
      b2 (FX11_at (σ1.2.1 25 ((12 : Int32) + x4).toNatClampNeg) x3 σ1) fun r_22 σ_22 =>
      (FX11_digest_144 L k38 n) ((x1 * (31 : Int64)) + r_22) x3 (x4 + (1 : Int32)) σ_22
def FX11_digest_102 (L : Nat) (k38 : Int64 → Int32 → MS → Option (Int64 × MS)) : Nat → Int64 → Int32 → Int32 → MS → Option (Int64 × MS)
  | 0, _, _, _, _ => none
  | n+1, x1, x3, x4, σ1 =>
    if ((2 : Int32) < 0 ∨ 4 ≤ (2 : Int32).toNatClampNeg) then none else
    if (σ1.2.1 23 (2 : Int32).toNatClampNeg) ≤ x4 then
      FX11_digest_144 L k38 L x1 x3 (0 : Int32) σ1
    else
      if (((24 : Int32) + x4) < 0 ∨ 48 ≤ ((24 : Int32) + x4).toNatClampNeg) then none else
      b2 (FX11_at (σ1.2.1 25 ((24 : Int32) + x4).toNatClampNeg) x3 σ1) fun r_24 σ_24 =>
      (FX11_digest_102 L k38 n) ((x1 * (31 : Int64)) + r_24) x3 (x4 + (1 : Int32)) σ_24
def FX11_digest_63 (L : Nat) (k38 : Int64 → Int32 → MS → Option (Int64 × MS)) : Nat → Int64 → Int32 → Int32 → MS → Option (Int64 × MS)
  | 0, _, _, _, _ => none
  | n+1, x1, x3, x4, σ1 =>
    if ((0 : Int32) < 0 ∨ 4 ≤ (0 : Int32).toNatClampNeg) then none else
    if (σ1.2.1 23 (0 : Int32).toNatClampNeg) ≤ x4 then
      FX11_digest_102 L k38 L x1 x3 (0 : Int32) σ1
    else
      if ((((8 : Int32) * x3) + x4) < 0 ∨ 960 ≤ (((8 : Int32) * x3) + x4).toNatClampNeg) then none else
      (FX11_digest_63 L k38 n) ((x1 * (31 : Int64)) + (σ1.2.2 31 (((8 : Int32) * x3) + x4).toNatClampNeg)) x3 (x4 + (1 : Int32)) σ1
def FX11_digest_38 (L : Nat)  : Nat → Int64 → Int32 → MS → Option (Int64 × MS)
  | 0, _, _, _ => none
  | n+1, x1, x3, σ1 =>
    if (σ1.1 29) ≤ x3 then
      FX11_digest_233 L L x1 (0 : Int32) σ1
    else
      if (x3 < 0 ∨ 120 ≤ x3.toNatClampNeg) then none else
      FX11_digest_63 L (FX11_digest_38 L n) L ((x1 * (31 : Int64)) + ((σ1.2.1 30 x3.toNatClampNeg).toInt64)) x3 (0 : Int32) σ1
def FX11_digest_11 (L : Nat)  : Nat → Int64 → Int32 → MS → Option (Int64 × MS)
  | 0, _, _, _ => none
  | n+1, x1, x3, σ1 =>
    if (7 : Int32) ≤ x3 then
      FX11_digest_38 L L x1 (0 : Int32) σ1
    else
      b2 (FX11_counted x3 σ1) fun r_26 σ_26 =>
      (FX11_digest_11 L n) ((x1 * (31 : Int64)) + r_26.toInt64) (x3 + (1 : Int32)) σ_26
def FX11_digest (L : Nat)  (σ : MS) : Option (Int64 × MS) :=
  FX11_digest_11 L L (383 : Int64) (0 : Int32) (sI σ 0 (0 : Int32))
def FX11_find_4 (L : Nat)  : Nat → Int32 → Int32 → Int32 → MS → Option (Int32 × MS)
  | 0, _, _, _, _ => none
  | n+1, x1, x2, x3, σ1 =>
    if (σ1.1 19) ≤ x3 then
      some (x2, σ1)
    else
      if (x3 < 0 ∨ 44 ≤ x3.toNatClampNeg) then none else
      b2 (FX11_nameOf L x1 σ1) fun r_3 σ_3 =>
      if (σ1.2.2 20 x3.toNatClampNeg) = r_3 then
        (FX11_find_4 L n) x1 x3 (x3 + (1 : Int32)) σ_3
      else
        (FX11_find_4 L n) x1 x2 (x3 + (1 : Int32)) σ_3
def FX11_find (L : Nat) (p0 : Int32) (σ : MS) : Option (Int32 × MS) :=
  FX11_find_4 L L p0 (-1 : Int32) (0 : Int32) σ
def FX11_moveQuestion_9 (L : Nat)  : Nat → Int32 → Int32 → Int32 → MS → Option (Int32 × MS)
  | 0, _, _, _, _ => none
  | n+1, x1, x2, x3, σ1 =>
    if (σ1.1 8) ≤ x3 then
      some (((σ1.1 17) - x2), (sI σ1 8 ((σ1.1 8) - x2)))
    else
      if (x3 < 0 ∨ 1203 ≤ x3.toNatClampNeg) then none else
      if ((x3 - x2) < 0 ∨ 1203 ≤ (x3 - x2).toNatClampNeg) then none else
      if (x3 < 0 ∨ 1203 ≤ x3.toNatClampNeg) then none else
      if (x3 < 0 ∨ 1203 ≤ x3.toNatClampNeg) then none else
      (FX11_isPart ((upd (σ1.2.1 9) (x3 - x2).toNatClampNeg (σ1.2.1 9 x3.toNatClampNeg)) x3.toNatClampNeg) (1 : Int32)).bind fun r_6 =>
      (FX11_moved (σ1.2.1 10 x3.toNatClampNeg) x1 x2 r_6).bind fun r_7 =>
      if ((x3 - x2) < 0 ∨ 1203 ≤ (x3 - x2).toNatClampNeg) then none else
      if (x3 < 0 ∨ 1203 ≤ x3.toNatClampNeg) then none else
      if (x3 < 0 ∨ 1203 ≤ x3.toNatClampNeg) then none else
      (FX11_isPart ((upd (σ1.2.1 9) (x3 - x2).toNatClampNeg (σ1.2.1 9 x3.toNatClampNeg)) x3.toNatClampNeg) (2 : Int32)).bind fun r_11 =>
      (FX11_moved (σ1.2.1 11 x3.toNatClampNeg) x1 x2 r_11).bind fun r_12 =>
      if ((x3 - x2) < 0 ∨ 1203 ≤ (x3 - x2).toNatClampNeg) then none else
      if (x3 < 0 ∨ 1203 ≤ x3.toNatClampNeg) then none else
      if (x3 < 0 ∨ 1203 ≤ x3.toNatClampNeg) then none else
      (FX11_isPart ((upd (σ1.2.1 9) (x3 - x2).toNatClampNeg (σ1.2.1 9 x3.toNatClampNeg)) x3.toNatClampNeg) (3 : Int32)).bind fun r_16 =>
      (FX11_moved (σ1.2.1 12 x3.toNatClampNeg) x1 x2 r_16).bind fun r_17 =>
      if ((x3 - x2) < 0 ∨ 1203 ≤ (x3 - x2).toNatClampNeg) then none else
      if (x3 < 0 ∨ 1203 ≤ x3.toNatClampNeg) then none else
      if ((x3 - x2) < 0 ∨ 1203 ≤ (x3 - x2).toNatClampNeg) then none else
      if (x3 < 0 ∨ 1203 ≤ x3.toNatClampNeg) then none else
      if ((x3 - x2) < 0 ∨ 1203 ≤ (x3 - x2).toNatClampNeg) then none else
      if (x3 < 0 ∨ 1203 ≤ x3.toNatClampNeg) then none else
      if ((x3 - x2) < 0 ∨ 1203 ≤ (x3 - x2).toNatClampNeg) then none else
      (FX11_moveQuestion_9 L n) x1 x2 (x3 + (1 : Int32)) (sA (sA (sA (sA (sA (sA (sA σ1 9 (upd (σ1.2.1 9) (x3 - x2).toNatClampNeg (σ1.2.1 9 x3.toNatClampNeg))) 10 (upd (σ1.2.1 10) (x3 - x2).toNatClampNeg r_7)) 11 (upd (σ1.2.1 11) (x3 - x2).toNatClampNeg r_12)) 12 (upd (σ1.2.1 12) (x3 - x2).toNatClampNeg r_17)) 13 (upd (σ1.2.1 13) (x3 - x2).toNatClampNeg (σ1.2.1 13 x3.toNatClampNeg))) 14 (upd (σ1.2.1 14) (x3 - x2).toNatClampNeg (σ1.2.1 14 x3.toNatClampNeg))) 15 (upd (σ1.2.1 15) (x3 - x2).toNatClampNeg (σ1.2.1 15 x3.toNatClampNeg)))
def FX11_moveQuestion (L : Nat) (p0 : Int32) (σ : MS) : Option (Int32 × MS) :=
  FX11_moveQuestion_9 L L p0 (p0 - (σ.1 27)) p0 σ
def FX11_is_49 (L : Nat) (w : Nat)  : Nat → Int32 → Int32 → Int32 → MS → Option (Int32 × MS)
  | 0, _, _, _, _ => none
  | n+1, x1, x3, x4, σ1 =>
    (FJ0_length_8abf5 w).bind fun r_7 =>
    if r_7 ≤ x4 then
      if (x3 ≠ 0 ∧ x3 ≠ 1) then none else
      some (x3, σ1)
    else
      if x3 = 0 then
        if (x3 ≠ 0 ∧ x3 ≠ 1) then none else
        some (x3, σ1)
      else
        if (x1 < 0 ∨ 1801 ≤ x1.toNatClampNeg) then none else
        if (((σ1.2.1 5 x1.toNatClampNeg) + x4) < 0 ∨ 1800 ≤ ((σ1.2.1 5 x1.toNatClampNeg) + x4).toNatClampNeg) then none else
        (FJ0_charAt_5068e w x4).bind fun r_14 =>
        if (σ1.2.1 1 ((σ1.2.1 5 x1.toNatClampNeg) + x4).toNatClampNeg) = r_14 then
          (FX11_is_49 L w n) x1 (1 : Int32) (x4 + (1 : Int32)) σ1
        else
          (FX11_is_49 L w n) x1 (0 : Int32) (x4 + (1 : Int32)) σ1
def FX11_is_20 (L : Nat) (w : Nat)  (x1 : Int32) (σ1 : MS) : Option (Int32 × MS) :=
    if (x1 < 0 ∨ 1801 ≤ x1.toNatClampNeg) then none else
    if (x1 < 0 ∨ 1801 ≤ x1.toNatClampNeg) then none else
    (FJ0_length_8abf5 w).bind fun r_5 =>
    if ((σ1.2.1 6 x1.toNatClampNeg) - (σ1.2.1 5 x1.toNatClampNeg)) = r_5 then
      FX11_is_49 L w L x1 (1 : Int32) (0 : Int32) σ1
    else
      FX11_is_49 L w L x1 (0 : Int32) (0 : Int32) σ1
def FX11_is (L : Nat) (p0 : Int32) (w : Nat) (σ : MS) : Option (Int32 × MS) :=
  if ¬ (w < 53) then none else
  if (p0 < 0 ∨ 1801 ≤ p0.toNatClampNeg) then none else
  if (σ.2.1 4 p0.toNatClampNeg) = (1 : Int32) then
    FX11_is_20 L w p0 σ
  else
    if (p0 < 0 ∨ 1801 ≤ p0.toNatClampNeg) then none else
    if (σ.2.1 4 p0.toNatClampNeg) = (3 : Int32) then
      FX11_is_20 L w p0 σ
    else
      FX11_is_49 L w L p0 (0 : Int32) (0 : Int32) σ
def FX11_which_5 (L : Nat) (t : Nat)  : Nat → Int32 → Int32 → Int32 → MS → Option (Int32 × MS)
  | 0, _, _, _, _ => none
  | n+1, x1, x3, x4, σ1 =>
    if (sTabLen t) ≤ x4 then
      some (x3, σ1)
    else
      if (x4 < 0 ∨ (sTab t).length ≤ x4.toNatClampNeg) then none else
      b2 (FX11_is L x1 ((sTab t).getD x4.toNatClampNeg 0) σ1) fun r_3 σ_3 =>
      if r_3 = 0 then
        (FX11_which_5 L t n) x1 x3 (x4 + (1 : Int32)) σ_3
      else
        (FX11_which_5 L t n) x1 x4 (x4 + (1 : Int32)) σ_3
def FX11_which (L : Nat) (p0 : Int32) (t : Nat) (σ : MS) : Option (Int32 × MS) :=
  FX11_which_5 L t L p0 (-1 : Int32) (0 : Int32) σ
def FX11_isName (L : Nat) (p0 : Int32) (σ : MS) : Option (Int32 × MS) :=
  if (p0 < 0 ∨ 1801 ≤ p0.toNatClampNeg) then none else
  if (σ.2.1 4 p0.toNatClampNeg) = (1 : Int32) then
    b2 (FX11_which L p0 0 σ) fun r_3 σ_3 =>
    if r_3 = (-1 : Int32) then
      some ((1 : Int32), σ_3)
    else
      some ((0 : Int32), σ_3)
  else
    some ((0 : Int32), σ)
def FX11_sees (L : Nat) (w : Nat) (σ : MS) : Option (Int32 × MS) :=
  b2 (FX11_is L (σ.1 7) w σ) fun r_1 σ_1 =>
  if (r_1 ≠ 0 ∧ r_1 ≠ 1) then none else
  some (r_1, σ_1)
def FX11_takes (L : Nat) (w : Nat) (σ : MS) : Option (Int32 × MS) :=
  b2 (FX11_sees L w σ) fun r_1 σ_1 =>
  if r_1 = 0 then
    some ((0 : Int32), σ_1)
  else
    b2 (FX11_goes σ_1) fun r_3 σ_3 =>
    if r_3 = 0 then
      some ((0 : Int32), σ_3)
    else
      some ((1 : Int32), σ_3)
def FX11_takesName (L : Nat)  (σ : MS) : Option (Int32 × MS) :=
  b2 (FX11_isName L (σ.1 7) σ) fun r_1 σ_1 =>
  if r_1 = 0 then
    some ((0 : Int32), σ_1)
  else
    b2 (FX11_goes σ_1) fun r_3 σ_3 =>
    if r_3 = 0 then
      some ((0 : Int32), σ_3)
    else
      some ((1 : Int32), σ_3)
def FX11_symbolAt_79 (L : Nat)  (x2 : Int32) (y0 : Int32) (σ1 : MS) : Option (Int32 × MS) :=
    if y0 = 0 then
      if x2 ≤ 0 then
        some ((0 : Int32), σ1)
      else
        (FJ0_indexOf_0f7a4 L 0 x2).bind fun r_9 =>
        if r_9 < 0 then
          some ((0 : Int32), σ1)
        else
          some ((1 : Int32), σ1)
    else
      some ((2 : Int32), σ1)
def FX11_symbolAt_78 (L : Nat)  (x2 : Int32) (σ1 : MS) : Option (Int32 × MS) :=
    FX11_symbolAt_79 L x2 (0 : Int32) σ1
def FX11_symbolAt_74 (L : Nat)  (x2 : Int32) (σ1 : MS) : Option (Int32 × MS) :=
    FX11_symbolAt_79 L x2 (1 : Int32) σ1
def FX11_symbolAt_62 (L : Nat)  (x2 : Int32) (x3 : Int32) (σ1 : MS) : Option (Int32 × MS) :=
    if x2 = (62 : Int32) then
      if x3 = (61 : Int32) then
        FX11_symbolAt_74 L x2 σ1
      else
        FX11_symbolAt_78 L x2 σ1
    else
      FX11_symbolAt_78 L x2 σ1
def FX11_symbolAt_44 (L : Nat)  (x2 : Int32) (x3 : Int32) (σ1 : MS) : Option (Int32 × MS) :=
    if x2 = (60 : Int32) then
      if x3 = (61 : Int32) then
        FX11_symbolAt_74 L x2 σ1
      else
        if x3 = (62 : Int32) then
          FX11_symbolAt_74 L x2 σ1
        else
          FX11_symbolAt_62 L x2 x3 σ1
    else
      FX11_symbolAt_62 L x2 x3 σ1
def FX11_symbolAt (L : Nat) (p0 : Int32) (σ : MS) : Option (Int32 × MS) :=
  b2 (FX11_byteAt p0 σ) fun r_1 σ_1 =>
  b2 (FX11_byteAt (p0 + (1 : Int32)) σ_1) fun r_2 σ_2 =>
  if r_1 = (46 : Int32) then
    if r_2 = (46 : Int32) then
      some ((2 : Int32), σ_2)
    else
      some ((0 : Int32), σ_2)
  else
    if r_1 = (58 : Int32) then
      if r_2 = (61 : Int32) then
        FX11_symbolAt_74 L r_1 σ_2
      else
        FX11_symbolAt_44 L r_1 r_2 σ_2
    else
      FX11_symbolAt_44 L r_1 r_2 σ_2
def FX11_scan_187 (L : Nat) (k6 : Int32 → Int32 → Int32 → MS → Option (Unit × MS)) (x1 : Int32) (x2 : Int32) (x4 : Int32) (x5 : Int32) (σ1 : MS) : Option (Unit × MS) :=
    if (x1 < 0 ∨ 1801 ≤ x1.toNatClampNeg) then none else
    if (x1 < 0 ∨ 1801 ≤ x1.toNatClampNeg) then none else
    if (x1 < 0 ∨ 1801 ≤ x1.toNatClampNeg) then none else
    if x5 = 0 then
      k6 (x1 + (1 : Int32)) x4 (0 : Int32) (sA (sA (sA σ1 4 (upd (σ1.2.1 4) x1.toNatClampNeg x5)) 5 (upd (σ1.2.1 5) x1.toNatClampNeg x2)) 6 (upd (σ1.2.1 6) x1.toNatClampNeg x4))
    else
      k6 (x1 + (1 : Int32)) x4 (1 : Int32) (sA (sA (sA σ1 4 (upd (σ1.2.1 4) x1.toNatClampNeg x5)) 5 (upd (σ1.2.1 5) x1.toNatClampNeg x2)) 6 (upd (σ1.2.1 6) x1.toNatClampNeg x4))
def FX11_scan_185 (L : Nat) (k6 : Int32 → Int32 → Int32 → MS → Option (Unit × MS)) (x1 : Int32) (x2 : Int32) (x4 : Int32) (y0 : Int32) (σ1 : MS) : Option (Unit × MS) :=
    FX11_scan_187 L k6 x1 x2 x4 y0 σ1
def FX11_scan_145 (L : Nat) (k6 : Int32 → Int32 → Int32 → MS → Option (Unit × MS)) (x1 : Int32) (x2 : Int32) (x4 : Int32) (y0 : Int32) (σ1 : MS) : Option (Unit × MS) :=
    FX11_scan_187 L k6 x1 x2 x4 y0 σ1
def FX11_scan_113 (L : Nat) (k6 : Int32 → Int32 → Int32 → MS → Option (Unit × MS)) : Nat → Int32 → Int32 → Int32 → MS → Option (Unit × MS)
  | 0, _, _, _, _ => none
  | n+1, x1, x2, x4, σ1 =>
    b2 (FX11_byteAt x4 σ1) fun r_20 σ_20 =>
    (FX11_isDigit r_20).bind fun r_21 =>
    if r_21 = 0 then
      if (6 : Int32) < (x4 - x2) then
        FX11_scan_145 L k6 x1 x2 x4 (4 : Int32) σ_20
      else
        FX11_scan_145 L k6 x1 x2 x4 (2 : Int32) σ_20
    else
      (FX11_scan_113 L k6 n) x1 x2 (x4 + (1 : Int32)) σ_20
def FX11_scan_97 (L : Nat) (k6 : Int32 → Int32 → Int32 → MS → Option (Unit × MS)) (x1 : Int32) (x2 : Int32) (x4 : Int32) (y0 : Int32) (σ1 : MS) : Option (Unit × MS) :=
    FX11_scan_187 L k6 x1 x2 x4 y0 σ1
def FX11_scan_53 (L : Nat) (k6 : Int32 → Int32 → Int32 → MS → Option (Unit × MS)) : Nat → Int32 → Int32 → Int32 → MS → Option (Unit × MS)
  | 0, _, _, _, _ => none
  | n+1, x1, x2, x4, σ1 =>
    b2 (FX11_byteAt x4 σ1) fun r_24 σ_24 =>
    (FX11_isLetter r_24).bind fun r_25 =>
    if r_25 = 0 then
      b2 (FX11_byteAt x4 σ_24) fun r_27 σ_27 =>
      (FX11_isDigit r_27).bind fun r_28 =>
      if r_28 = 0 then
        if (8 : Int32) < (x4 - x2) then
          FX11_scan_97 L k6 x1 x2 x4 (4 : Int32) σ_27
        else
          FX11_scan_97 L k6 x1 x2 x4 (1 : Int32) σ_27
      else
        (FX11_scan_53 L k6 n) x1 x2 (x4 + (1 : Int32)) σ_27
    else
      (FX11_scan_53 L k6 n) x1 x2 (x4 + (1 : Int32)) σ_24
def FX11_scan_10 (L : Nat) (k6 : Int32 → Int32 → Int32 → MS → Option (Unit × MS)) : Nat → Int32 → Int32 → MS → Option (Unit × MS)
  | 0, _, _, _ => none
  | n+1, x1, x2, σ1 =>
    b2 (FX11_byteAt x2 σ1) fun r_2 σ_2 =>
    if r_2 = (32 : Int32) then
      (FX11_scan_10 L k6 n) x1 (x2 + (1 : Int32)) σ_2
    else
      b2 (FX11_byteAt x2 σ_2) fun r_4 σ_4 =>
      if r_4 = (10 : Int32) then
        (FX11_scan_10 L k6 n) x1 (x2 + (1 : Int32)) σ_4
      else
        b2 (FX11_byteAt x2 σ_4) fun r_6 σ_6 =>
        (FX11_isLetter r_6).bind fun r_7 =>
        if r_7 = 0 then
          b2 (FX11_byteAt x2 σ_6) fun r_9 σ_9 =>
          (FX11_isDigit r_9).bind fun r_10 =>
          if r_10 = 0 then
            if (σ_9.1 2) ≤ x2 then
              FX11_scan_187 L k6 x1 x2 x2 (0 : Int32) σ_9
            else
              b2 (FX11_symbolAt L x2 σ_9) fun r_17 σ_17 =>
              b2 (FX11_symbolAt L x2 σ_17) fun r_18 σ_18 =>
              if r_18 ≤ 0 then
                FX11_scan_185 L k6 x1 x2 (x2 + (if (1 : Int32) < r_17 then r_17 else (1 : Int32))) (4 : Int32) σ_18
              else
                FX11_scan_185 L k6 x1 x2 (x2 + (if (1 : Int32) < r_17 then r_17 else (1 : Int32))) (3 : Int32) σ_18
          else
            FX11_scan_113 L k6 L x1 x2 x2 σ_9
        else
          FX11_scan_53 L k6 L x1 x2 x2 σ_6
def FX11_scan_6 (L : Nat)  : Nat → Int32 → Int32 → Int32 → MS → Option (Unit × MS)
  | 0, _, _, _, _ => none
  | n+1, x1, x2, x3, σ1 =>
    if x3 = 0 then
      some ((), σ1)
    else
      FX11_scan_10 L (FX11_scan_6 L n) L x1 x2 σ1
def FX11_scan (L : Nat)  (σ : MS) : Option (Unit × MS) :=
  FX11_scan_6 L L (0 : Int32) (0 : Int32) (1 : Int32) σ
abbrev RC : Type := Nat → Int32 → Int32 → Nat → MS → Option (Int32 × MS)
def FX11_reason (rc : RC) (L : Nat) (p0 : Int32) (p1 : Int32) (σ : MS) : Option (Int32 × MS) :=
  if (p0 < 0 ∨ 1203 ≤ p0.toNatClampNeg) then none else
  if (p0 < 0 ∨ 1203 ≤ p0.toNatClampNeg) then none else
  if (p0 < 0 ∨ 1203 ≤ p0.toNatClampNeg) then none else
  if (σ.2.1 9 p0.toNatClampNeg) = 5 then
    b2 (FX11_firstMiss L p0 p1 σ) fun r_5 σ_5 =>
    b2 (rc 0 (σ.2.1 10 p0.toNatClampNeg) r_5 0 σ_5) fun r_6 σ_6 =>
    some (r_6, σ_6)
  else if (σ.2.1 9 p0.toNatClampNeg) = 8 then
    b2 (rc 0 (σ.2.1 10 p0.toNatClampNeg) p1 0 σ) fun r_8 σ_8 =>
    some (r_8, σ_8)
  else if (σ.2.1 9 p0.toNatClampNeg) = 11 then
    b2 (FX11_holds (σ.2.1 10 p0.toNatClampNeg) p1 σ) fun r_10 σ_10 =>
    if r_10 = 0 then
      b2 (rc 0 (σ.2.1 10 p0.toNatClampNeg) p1 0 σ_10) fun r_12 σ_12 =>
      some (r_12, σ_12)
    else
      b2 (rc 0 (σ.2.1 11 p0.toNatClampNeg) p1 0 σ_10) fun r_13 σ_13 =>
      some (r_13, σ_13)
  else if (σ.2.1 9 p0.toNatClampNeg) = 12 then
    b2 (rc 0 (σ.2.1 11 p0.toNatClampNeg) p1 0 σ) fun r_15 σ_15 =>
    some (r_15, σ_15)
  else if (σ.2.1 9 p0.toNatClampNeg) = 13 then
    b2 (rc 0 (σ.2.1 11 p0.toNatClampNeg) p1 0 σ) fun r_17 σ_17 =>
    some (r_17, σ_17)
  else 
    if (p0 < 0 ∨ 1203 ≤ p0.toNatClampNeg) then none else
    if (σ.2.1 9 p0.toNatClampNeg) = (1 : Int32) then
      if p1 ≤ 0 then
        if (p0 < 0 ∨ 1203 ≤ p0.toNatClampNeg) then none else
        some ((σ.2.1 15 p0.toNatClampNeg), (sI σ 39 p1))
      else
        b2 (rc 0 (σ.2.1 10 p0.toNatClampNeg) (p1 - (1 : Int32)) 0 σ) fun r_23 σ_23 =>
        some (r_23, σ_23)
    else
      if (p0 < 0 ∨ 1203 ≤ p0.toNatClampNeg) then none else
      some ((σ.2.1 15 p0.toNatClampNeg), (sI σ 39 p1))
def FSC3 (L : Nat) : Nat → RC
  | 0 => fun _ _ _ _ _ => none
  | d+1 => fun k a b w σ => if k = 0 then FX11_reason (FSC3 L d) L a b σ else none
theorem FSC3_0 {L d : Nat} {a : Int32} {b : Int32} {σ : MS} : FSC3 L (d + 1) 0 a b 0 σ = FX11_reason (FSC3 L d) L a b σ := rfl
def dSC3 : Nat := 1300
def FX11_boundsForm (L : Nat)  (σ : MS) : Option (Int32 × MS) :=
  b2 (FX11_sees L 15 σ) fun r_1 σ_1 =>
  if r_1 = 0 then
    some ((1 : Int32), σ_1)
  else
    b2 (FX11_goes σ_1) fun r_3 σ_3 =>
    if r_3 = 0 then
      some ((0 : Int32), σ_3)
    else
      b2 (FX11_takesNumber σ_3) fun r_5 σ_5 =>
      if r_5 = 0 then
        some ((0 : Int32), σ_5)
      else
        b2 (FX11_takes L 16 σ_5) fun r_7 σ_7 =>
        if r_7 = 0 then
          some ((0 : Int32), σ_7)
        else
          b2 (FX11_takesNumber σ_7) fun r_9 σ_9 =>
          if r_9 = 0 then
            some ((0 : Int32), σ_9)
          else
            b2 (FX11_takes L 17 σ_9) fun r_11 σ_11 =>
            if r_11 = 0 then
              some ((0 : Int32), σ_11)
            else
              some ((1 : Int32), σ_11)
def FX11_formulaForm (rc : RC) (L : Nat) (p0 : Int32) (σ : MS) : Option (Int32 × MS) :=
  b2 (rc 1 p0 0 11 σ) fun r_1 σ_1 =>
  if r_1 = 0 then
    some ((0 : Int32), σ_1)
  else
    b2 (FX11_sees L 12 σ_1) fun r_3 σ_3 =>
    if r_3 = 0 then
      some ((1 : Int32), σ_3)
    else
      b2 (FX11_goes σ_3) fun r_5 σ_5 =>
      if r_5 = 0 then
        some ((0 : Int32), σ_5)
      else
        b2 (rc 0 p0 0 0 σ_5) fun r_7 σ_7 =>
        if r_7 = 0 then
          some ((0 : Int32), σ_7)
        else
          some ((1 : Int32), σ_7)
def FX11_rowForm_41 (rc : RC) (L : Nat) (w : Nat)  : Nat → Int32 → Int32 → MS → Option (Int32 × MS)
  | 0, _, _, _ => none
  | n+1, x1, x3, σ1 =>
    b2 (FX11_sees L w σ1) fun r_6 σ_6 =>
    if r_6 = 0 then
      some ((1 : Int32), σ_6)
    else
      b2 (FX11_goes σ_6) fun r_8 σ_8 =>
      if r_8 = 0 then
        some ((0 : Int32), σ_8)
      else
        if x3 = 0 then
          b2 (rc 2 x1 0 0 σ_8) fun r_11 σ_11 =>
          if r_11 = 0 then
            some ((0 : Int32), σ_11)
          else
            (FX11_rowForm_41 rc L w n) x1 x3 σ_11
        else
          b2 (rc 1 x1 0 13 σ_8) fun r_13 σ_13 =>
          if r_13 = 0 then
            some ((0 : Int32), σ_13)
          else
            (FX11_rowForm_41 rc L w n) x1 x3 σ_13
def FX11_rowForm_13 (rc : RC) (L : Nat) (w : Nat)  (x1 : Int32) (y0 : Int32) (σ1 : MS) : Option (Int32 × MS) :=
    if y0 = 0 then
      b2 (rc 2 x1 0 0 σ1) fun r_4 σ_4 =>
      if r_4 = 0 then
        some ((0 : Int32), σ_4)
      else
        FX11_rowForm_41 rc L w L x1 y0 σ_4
    else
      b2 (rc 1 x1 0 13 σ1) fun r_15 σ_15 =>
      if r_15 = 0 then
        some ((0 : Int32), σ_15)
      else
        FX11_rowForm_41 rc L w L x1 y0 σ_15
def FX11_rowForm (rc : RC) (L : Nat) (p0 : Int32) (w : Nat) (σ : MS) : Option (Int32 × MS) :=
  if ¬ (w < 53) then none else
  (FJ0_length_8abf5 w).bind fun r_1 =>
  if r_1 = (2 : Int32) then
    FX11_rowForm_13 rc L w p0 (1 : Int32) σ
  else
    FX11_rowForm_13 rc L w p0 (0 : Int32) σ
def FX11_sinceForm (rc : RC) (L : Nat) (p0 : Int32) (σ : MS) : Option (Int32 × MS) :=
  b2 (rc 3 p0 0 0 σ) fun r_1 σ_1 =>
  if r_1 = 0 then
    some ((0 : Int32), σ_1)
  else
    b2 (FX11_sees L 14 σ_1) fun r_3 σ_3 =>
    if r_3 = 0 then
      some ((1 : Int32), σ_3)
    else
      b2 (FX11_goes σ_3) fun r_5 σ_5 =>
      if r_5 = 0 then
        some ((0 : Int32), σ_5)
      else
        b2 (FX11_boundsForm L σ_5) fun r_7 σ_7 =>
        if r_7 = 0 then
          some ((0 : Int32), σ_7)
        else
          b2 (rc 3 p0 0 0 σ_7) fun r_9 σ_9 =>
          if r_9 = 0 then
            some ((0 : Int32), σ_9)
          else
            some ((1 : Int32), σ_9)
def FX11_oneForm_42 (rc : RC) (L : Nat)  (x1 : Int32) (σ1 : MS) : Option (Int32 × MS) :=
    b2 (rc 3 (x1 + (1 : Int32)) 0 0 σ1) fun r_38 σ_38 =>
    if r_38 = 0 then
      some ((0 : Int32), σ_38)
    else
      some ((1 : Int32), σ_38)
def FX11_oneForm (rc : RC) (L : Nat) (p0 : Int32) (σ : MS) : Option (Int32 × MS) :=
  b2 (FX11_which L (σ.1 7) 3 σ) fun r_1 σ_1 =>
  if r_1 = (-1 : Int32) then
    b2 (FX11_sees L 18 σ_1) fun r_3 σ_3 =>
    if r_3 = 0 then
      b2 (FX11_sees L 20 σ_3) fun r_5 σ_5 =>
      if r_5 = 0 then
        b2 (FX11_sees L 21 σ_5) fun r_9 σ_9 =>
        if r_9 = 0 then
          b2 (FX11_sees L 22 σ_9) fun r_11 σ_11 =>
          if r_11 = 0 then
            b2 (rc 4 p0 0 0 σ_11) fun r_13 σ_13 =>
            if r_13 = 0 then
              some ((0 : Int32), σ_13)
            else
              b2 (FX11_which L (σ_13.1 7) 1 σ_13) fun r_15 σ_15 =>
              if r_15 = (-1 : Int32) then
                some ((0 : Int32), σ_15)
              else
                b2 (FX11_goes σ_15) fun r_17 σ_17 =>
                if r_17 = 0 then
                  some ((0 : Int32), σ_17)
                else
                  b2 (rc 4 p0 0 0 σ_17) fun r_19 σ_19 =>
                  if r_19 = 0 then
                    some ((0 : Int32), σ_19)
                  else
                    some ((1 : Int32), σ_19)
          else
            b2 (FX11_goes σ_11) fun r_21 σ_21 =>
            if r_21 = 0 then
              some ((0 : Int32), σ_21)
            else
              b2 (FX11_takesName L σ_21) fun r_23 σ_23 =>
              if r_23 = 0 then
                some ((0 : Int32), σ_23)
              else
                some ((1 : Int32), σ_23)
        else
          b2 (FX11_goes σ_9) fun r_25 σ_25 =>
          if (r_25 ≠ 0 ∧ r_25 ≠ 1) then none else
          some (r_25, σ_25)
      else
        b2 (FX11_goes σ_5) fun r_7 σ_7 =>
        if (r_7 ≠ 0 ∧ r_7 ≠ 1) then none else
        some (r_7, σ_7)
    else
      if (10 : Int32) ≤ p0 then
        some ((0 : Int32), σ_3)
      else
        b2 (FX11_goes σ_3) fun r_28 σ_28 =>
        if r_28 = 0 then
          some ((0 : Int32), σ_28)
        else
          b2 (rc 0 (p0 + (1 : Int32)) 0 0 σ_28) fun r_30 σ_30 =>
          if r_30 = 0 then
            some ((0 : Int32), σ_30)
          else
            b2 (FX11_takes L 19 σ_30) fun r_32 σ_32 =>
            if r_32 = 0 then
              some ((0 : Int32), σ_32)
            else
              some ((1 : Int32), σ_32)
  else
    if (10 : Int32) ≤ p0 then
      some ((0 : Int32), σ_1)
    else
      b2 (FX11_goes σ_1) fun r_35 σ_35 =>
      if r_35 = 0 then
        some ((0 : Int32), σ_35)
      else
        if r_1 < (4 : Int32) then
          FX11_oneForm_42 rc L p0 σ_35
        else
          b2 (FX11_boundsForm L σ_35) fun r_40 σ_40 =>
          if r_40 = 0 then
            some ((0 : Int32), σ_40)
          else
            FX11_oneForm_42 rc L p0 σ_40
def FX11_expressionForm_28 (rc : RC) (L : Nat) (k10 : Int32 → MS → Option (Int32 × MS)) (x1 : Int32) (σ1 : MS) : Option (Int32 × MS) :=
    b2 (FX11_goes σ1) fun r_5 σ_5 =>
    if r_5 = 0 then
      some ((0 : Int32), σ_5)
    else
      b2 (rc 5 x1 0 0 σ_5) fun r_7 σ_7 =>
      if r_7 = 0 then
        some ((0 : Int32), σ_7)
      else
        k10 x1 σ_7
def FX11_expressionForm_10 (rc : RC) (L : Nat)  : Nat → Int32 → MS → Option (Int32 × MS)
  | 0, _, _ => none
  | n+1, x1, σ1 =>
    b2 (FX11_sees L 23 σ1) fun r_3 σ_3 =>
    if r_3 = 0 then
      b2 (FX11_sees L 3 σ_3) fun r_9 σ_9 =>
      if r_9 = 0 then
        some ((1 : Int32), σ_9)
      else
        FX11_expressionForm_28 rc L (FX11_expressionForm_10 rc L n) x1 σ_9
    else
      FX11_expressionForm_28 rc L (FX11_expressionForm_10 rc L n) x1 σ_3
def FX11_expressionForm (rc : RC) (L : Nat) (p0 : Int32) (σ : MS) : Option (Int32 × MS) :=
  b2 (rc 5 p0 0 0 σ) fun r_1 σ_1 =>
  if r_1 = 0 then
    some ((0 : Int32), σ_1)
  else
    FX11_expressionForm_10 rc L L p0 σ_1
def FX11_productForm_38 (rc : RC) (L : Nat) (k10 : Int32 → MS → Option (Int32 × MS)) (x1 : Int32) (σ1 : MS) : Option (Int32 × MS) :=
    b2 (FX11_goes σ1) fun r_5 σ_5 =>
    if r_5 = 0 then
      some ((0 : Int32), σ_5)
    else
      b2 (rc 7 x1 0 0 σ_5) fun r_7 σ_7 =>
      if r_7 = 0 then
        some ((0 : Int32), σ_7)
      else
        k10 x1 σ_7
def FX11_productForm_10 (rc : RC) (L : Nat)  : Nat → Int32 → MS → Option (Int32 × MS)
  | 0, _, _ => none
  | n+1, x1, σ1 =>
    b2 (FX11_sees L 24 σ1) fun r_3 σ_3 =>
    if r_3 = 0 then
      b2 (FX11_sees L 25 σ_3) fun r_9 σ_9 =>
      if r_9 = 0 then
        b2 (FX11_sees L 26 σ_9) fun r_11 σ_11 =>
        if r_11 = 0 then
          some ((1 : Int32), σ_11)
        else
          FX11_productForm_38 rc L (FX11_productForm_10 rc L n) x1 σ_11
      else
        FX11_productForm_38 rc L (FX11_productForm_10 rc L n) x1 σ_9
    else
      FX11_productForm_38 rc L (FX11_productForm_10 rc L n) x1 σ_3
def FX11_productForm (rc : RC) (L : Nat) (p0 : Int32) (σ : MS) : Option (Int32 × MS) :=
  b2 (rc 7 p0 0 0 σ) fun r_1 σ_1 =>
  if r_1 = 0 then
    some ((0 : Int32), σ_1)
  else
    FX11_productForm_10 rc L L p0 σ_1
def FX11_bracesForm (rc : RC) (L : Nat) (p0 : Int32) (σ : MS) : Option (Int32 × MS) :=
  b2 (FX11_sees L 18 σ) fun r_1 σ_1 =>
  if r_1 = 0 then
    some ((0 : Int32), σ_1)
  else
    if (10 : Int32) ≤ p0 then
      some ((0 : Int32), σ_1)
    else
      b2 (FX11_goes σ_1) fun r_4 σ_4 =>
      if r_4 = 0 then
        some ((0 : Int32), σ_4)
      else
        b2 (rc 0 (p0 + (1 : Int32)) 0 0 σ_4) fun r_6 σ_6 =>
        if r_6 = 0 then
          some ((0 : Int32), σ_6)
        else
          some ((1 : Int32), σ_6)
def FX11_factorForm_162 (rc : RC) (L : Nat)  (x1 : Int32) (σ1 : MS) : Option (Int32 × MS) :=
    b2 (FX11_goes σ1) fun r_21 σ_21 =>
    if r_21 = 0 then
      some ((0 : Int32), σ_21)
    else
      b2 (rc 6 x1 0 0 σ_21) fun r_23 σ_23 =>
      if r_23 = 0 then
        some ((0 : Int32), σ_23)
      else
        b2 (FX11_takes L 19 σ_23) fun r_25 σ_25 =>
        if r_25 = 0 then
          some ((0 : Int32), σ_25)
        else
          some ((1 : Int32), σ_25)
def FX11_factorForm (rc : RC) (L : Nat) (p0 : Int32) (σ : MS) : Option (Int32 × MS) :=
  if ((σ.1 7) < 0 ∨ 1801 ≤ (σ.1 7).toNatClampNeg) then none else
  if (σ.2.1 4 (σ.1 7).toNatClampNeg) = (2 : Int32) then
    b2 (FX11_goes σ) fun r_3 σ_3 =>
    if (r_3 ≠ 0 ∧ r_3 ≠ 1) then none else
    some (r_3, σ_3)
  else
    b2 (FX11_isName L (σ.1 7) σ) fun r_5 σ_5 =>
    if r_5 = 0 then
      b2 (FX11_sees L 27 σ_5) fun r_9 σ_9 =>
      if r_9 = 0 then
        b2 (FX11_sees L 28 σ_9) fun r_13 σ_13 =>
        if r_13 = 0 then
          b2 (FX11_sees L 29 σ_13) fun r_15 σ_15 =>
          if r_15 = 0 then
            b2 (FX11_which L (σ_15.1 7) 4 σ_15) fun r_17 σ_17 =>
            if r_17 = (-1 : Int32) then
              b2 (FX11_sees L 31 σ_17) fun r_19 σ_19 =>
              if r_19 = 0 then
                b2 (FX11_sees L 32 σ_19) fun r_27 σ_27 =>
                if r_27 = 0 then
                  b2 (FX11_sees L 33 σ_27) fun r_29 σ_29 =>
                  if r_29 = 0 then
                    b2 (FX11_takes L 34 σ_29) fun r_31 σ_31 =>
                    if r_31 = 0 then
                      some ((0 : Int32), σ_31)
                    else
                      b2 (rc 6 p0 0 0 σ_31) fun r_33 σ_33 =>
                      if r_33 = 0 then
                        some ((0 : Int32), σ_33)
                      else
                        b2 (FX11_takes L 19 σ_33) fun r_35 σ_35 =>
                        if r_35 = 0 then
                          some ((0 : Int32), σ_35)
                        else
                          b2 (FX11_takes L 35 σ_35) fun r_37 σ_37 =>
                          if r_37 = 0 then
                            some ((0 : Int32), σ_37)
                          else
                            b2 (rc 7 (p0 + (1 : Int32)) 0 0 σ_37) fun r_39 σ_39 =>
                            if r_39 = 0 then
                              some ((0 : Int32), σ_39)
                            else
                              b2 (FX11_takes L 36 σ_39) fun r_41 σ_41 =>
                              if r_41 = 0 then
                                some ((0 : Int32), σ_41)
                              else
                                b2 (rc 7 (p0 + (1 : Int32)) 0 0 σ_41) fun r_43 σ_43 =>
                                if r_43 = 0 then
                                  some ((0 : Int32), σ_43)
                                else
                                  some ((1 : Int32), σ_43)
                  else
                    b2 (FX11_goes σ_29) fun r_45 σ_45 =>
                    if r_45 = 0 then
                      some ((0 : Int32), σ_45)
                    else
                      b2 (rc 6 p0 0 0 σ_45) fun r_47 σ_47 =>
                      if r_47 = 0 then
                        some ((0 : Int32), σ_47)
                      else
                        b2 (FX11_takes L 19 σ_47) fun r_49 σ_49 =>
                        if r_49 = 0 then
                          some ((0 : Int32), σ_49)
                        else
                          b2 (rc 7 (p0 + (1 : Int32)) 0 0 σ_49) fun r_51 σ_51 =>
                          if r_51 = 0 then
                            some ((0 : Int32), σ_51)
                          else
                            some ((1 : Int32), σ_51)
                else
                  FX11_factorForm_162 rc L p0 σ_27
              else
                FX11_factorForm_162 rc L p0 σ_19
            else
              if (10 : Int32) ≤ p0 then
                some ((0 : Int32), σ_17)
              else
                b2 (FX11_goes σ_17) fun r_54 σ_54 =>
                if r_54 = 0 then
                  some ((0 : Int32), σ_54)
                else
                  b2 (rc 7 (p0 + (1 : Int32)) 0 0 σ_54) fun r_56 σ_56 =>
                  if r_56 = 0 then
                    some ((0 : Int32), σ_56)
                  else
                    some ((1 : Int32), σ_56)
          else
            if (10 : Int32) ≤ p0 then
              some ((0 : Int32), σ_15)
            else
              b2 (FX11_goes σ_15) fun r_59 σ_59 =>
              if r_59 = 0 then
                some ((0 : Int32), σ_59)
              else
                b2 (rc 4 (p0 + (1 : Int32)) 0 0 σ_59) fun r_61 σ_61 =>
                if r_61 = 0 then
                  some ((0 : Int32), σ_61)
                else
                  b2 (FX11_takes L 30 σ_61) fun r_63 σ_63 =>
                  if r_63 = 0 then
                    some ((0 : Int32), σ_63)
                  else
                    some ((1 : Int32), σ_63)
        else
          b2 (FX11_goes σ_13) fun r_65 σ_65 =>
          if (r_65 ≠ 0 ∧ r_65 ≠ 1) then none else
          some (r_65, σ_65)
      else
        b2 (FX11_goes σ_9) fun r_11 σ_11 =>
        if (r_11 ≠ 0 ∧ r_11 ≠ 1) then none else
        some (r_11, σ_11)
    else
      b2 (FX11_goes σ_5) fun r_7 σ_7 =>
      if (r_7 ≠ 0 ∧ r_7 ≠ 1) then none else
      some (r_7, σ_7)
def FSC1 (L : Nat) : Nat → RC
  | 0 => fun _ _ _ _ _ => none
  | d+1 => fun k a b w σ => if k = 0 then FX11_formulaForm (FSC1 L d) L a σ else if k = 1 then FX11_rowForm (FSC1 L d) L a w σ else if k = 2 then FX11_sinceForm (FSC1 L d) L a σ else if k = 3 then FX11_oneForm (FSC1 L d) L a σ else if k = 4 then FX11_expressionForm (FSC1 L d) L a σ else if k = 5 then FX11_productForm (FSC1 L d) L a σ else if k = 6 then FX11_bracesForm (FSC1 L d) L a σ else if k = 7 then FX11_factorForm (FSC1 L d) L a σ else none
theorem FSC1_0 {L d : Nat} {a : Int32} {σ : MS} : FSC1 L (d + 1) 0 a 0 0 σ = FX11_formulaForm (FSC1 L d) L a σ := rfl
theorem FSC1_1 {L d : Nat} {a : Int32} {w : Nat} {σ : MS} : FSC1 L (d + 1) 1 a 0 w σ = FX11_rowForm (FSC1 L d) L a w σ := rfl
theorem FSC1_2 {L d : Nat} {a : Int32} {σ : MS} : FSC1 L (d + 1) 2 a 0 0 σ = FX11_sinceForm (FSC1 L d) L a σ := rfl
theorem FSC1_3 {L d : Nat} {a : Int32} {σ : MS} : FSC1 L (d + 1) 3 a 0 0 σ = FX11_oneForm (FSC1 L d) L a σ := rfl
theorem FSC1_4 {L d : Nat} {a : Int32} {σ : MS} : FSC1 L (d + 1) 4 a 0 0 σ = FX11_expressionForm (FSC1 L d) L a σ := rfl
theorem FSC1_5 {L d : Nat} {a : Int32} {σ : MS} : FSC1 L (d + 1) 5 a 0 0 σ = FX11_productForm (FSC1 L d) L a σ := rfl
theorem FSC1_6 {L d : Nat} {a : Int32} {σ : MS} : FSC1 L (d + 1) 6 a 0 0 σ = FX11_bracesForm (FSC1 L d) L a σ := rfl
theorem FSC1_7 {L d : Nat} {a : Int32} {σ : MS} : FSC1 L (d + 1) 7 a 0 0 σ = FX11_factorForm (FSC1 L d) L a σ := rfl
def dSC1 : Nat := 700
def FX11_item_215 (L : Nat)   (σ1 : MS) : Option (Int32 × MS) :=
    b2 (FX11_takes L 4 σ1) fun r_17 σ_17 =>
    if r_17 = 0 then
      some ((0 : Int32), σ_17)
    else
      some ((1 : Int32), σ_17)
def FX11_item_41 (L : Nat)   (σ1 : MS) : Option (Int32 × MS) :=
    b2 (FX11_takesNumber σ1) fun r_45 σ_45 =>
    if r_45 = 0 then
      some ((0 : Int32), σ_45)
    else
      b2 (FX11_takes L 4 σ_45) fun r_47 σ_47 =>
      if r_47 = 0 then
        some ((0 : Int32), σ_47)
      else
        some ((1 : Int32), σ_47)
def FX11_item (L : Nat)  (σ : MS) : Option (Int32 × MS) :=
  b2 (FX11_takes L 1 σ) fun r_1 σ_1 =>
  if r_1 = 0 then
    b2 (FX11_takes L 5 σ_1) fun r_3 σ_3 =>
    if r_3 = 0 then
      b2 (FX11_takes L 7 σ_3) fun r_5 σ_5 =>
      if r_5 = 0 then
        b2 (FX11_takes L 8 σ_5) fun r_7 σ_7 =>
        if r_7 = 0 then
          some ((0 : Int32), σ_7)
        else
          b2 (FX11_takesName L σ_7) fun r_9 σ_9 =>
          if r_9 = 0 then
            some ((0 : Int32), σ_9)
          else
            b2 (FX11_takes L 9 σ_9) fun r_11 σ_11 =>
            if r_11 = 0 then
              some ((0 : Int32), σ_11)
            else
              b2 (FSC1 L dSC1 0 (0 : Int32) 0 0 σ_11) fun r_13 σ_13 =>
              if r_13 = 0 then
                some ((0 : Int32), σ_13)
              else
                b2 (FX11_sees L 10 σ_13) fun r_15 σ_15 =>
                if r_15 = 0 then
                  FX11_item_215 L σ_15
                else
                  b2 (FX11_goes σ_15) fun r_19 σ_19 =>
                  if r_19 = 0 then
                    some ((0 : Int32), σ_19)
                  else
                    b2 (FX11_takesNumber σ_19) fun r_21 σ_21 =>
                    if r_21 = 0 then
                      some ((0 : Int32), σ_21)
                    else
                      FX11_item_215 L σ_21
      else
        b2 (FX11_takesName L σ_5) fun r_23 σ_23 =>
        if r_23 = 0 then
          some ((0 : Int32), σ_23)
        else
          b2 (FX11_takes L 2 σ_23) fun r_25 σ_25 =>
          if r_25 = 0 then
            some ((0 : Int32), σ_25)
          else
            b2 (FSC1 L dSC1 4 (0 : Int32) 0 0 σ_25) fun r_27 σ_27 =>
            if r_27 = 0 then
              some ((0 : Int32), σ_27)
            else
              b2 (FX11_takes L 4 σ_27) fun r_29 σ_29 =>
              if r_29 = 0 then
                some ((0 : Int32), σ_29)
              else
                some ((1 : Int32), σ_29)
    else
      b2 (FX11_takesName L σ_3) fun r_31 σ_31 =>
      if r_31 = 0 then
        some ((0 : Int32), σ_31)
      else
        b2 (FX11_takes L 6 σ_31) fun r_33 σ_33 =>
        if r_33 = 0 then
          some ((0 : Int32), σ_33)
        else
          b2 (FSC1 L dSC1 0 (0 : Int32) 0 0 σ_33) fun r_35 σ_35 =>
          if r_35 = 0 then
            some ((0 : Int32), σ_35)
          else
            b2 (FX11_takes L 4 σ_35) fun r_37 σ_37 =>
            if r_37 = 0 then
              some ((0 : Int32), σ_37)
            else
              some ((1 : Int32), σ_37)
  else
    b2 (FX11_takesName L σ_1) fun r_39 σ_39 =>
    if r_39 = 0 then
      some ((0 : Int32), σ_39)
    else
      b2 (FX11_takes L 2 σ_39) fun r_41 σ_41 =>
      if r_41 = 0 then
        some ((0 : Int32), σ_41)
      else
        b2 (FX11_sees L 3 σ_41) fun r_43 σ_43 =>
        if r_43 = 0 then
          FX11_item_41 L σ_43
        else
          b2 (FX11_goes σ_43) fun r_49 σ_49 =>
          if r_49 = 0 then
            some ((0 : Int32), σ_49)
          else
            FX11_item_41 L σ_49
def FX11_program_0 (L : Nat)  : Nat → MS → Option (Int32 × MS)
  | 0, _ => none
  | n+1, σ1 =>
    b2 (FX11_item L σ1) fun r_1 σ_1 =>
    if r_1 = 0 then
      some ((0 : Int32), σ_1)
    else
      if ((σ_1.1 7) < 0 ∨ 1801 ≤ (σ_1.1 7).toNatClampNeg) then none else
      if (σ_1.2.1 4 (σ_1.1 7).toNatClampNeg) = 0 then
        some ((1 : Int32), σ_1)
      else
        (FX11_program_0 L n) σ_1
def FX11_program (L : Nat)  (σ : MS) : Option (Int32 × MS) :=
  FX11_program_0 L L σ
def FX11_bounds_106 (L : Nat)   (σ1 : MS) : Option (Int32 × MS) :=
    b2 (FX11_wrong (5 : Int32) (σ1.1 7) σ1) fun r_8 σ_8 =>
    some (r_8, σ_8)
def FX11_bounds (L : Nat)  (σ : MS) : Option (Int32 × MS) :=
  b2 (FX11_sees L 15 (sI (sI σ 37 (0 : Int32)) 38 (-1 : Int32))) fun r_1 σ_1 =>
  if r_1 = 0 then
    some ((0 : Int32), σ_1)
  else
    b2 (FX11_numberOf L ((σ_1.1 7) + (1 : Int32)) (sI σ_1 7 ((σ_1.1 7) + (1 : Int32)))) fun r_3 σ_3 =>
    if r_3 ≤ (1000 : Int32) then
      b2 (FX11_numberOf L (σ_3.1 7) σ_3) fun r_5 σ_5 =>
      b2 (FX11_numberOf L ((σ_5.1 7) + (2 : Int32)) (sI (sI σ_5 37 r_5) 7 ((σ_5.1 7) + (2 : Int32)))) fun r_6 σ_6 =>
      if (1000 : Int32) < r_6 then
        FX11_bounds_106 L σ_6
      else
        b2 (FX11_numberOf L (σ_6.1 7) σ_6) fun r_9 σ_9 =>
        if (σ_9.1 37) ≤ r_9 then
          b2 (FX11_numberOf L (σ_9.1 7) σ_9) fun r_11 σ_11 =>
          some ((0 : Int32), (sI (sI σ_11 38 r_11) 7 ((σ_11.1 7) + (2 : Int32))))
        else
          FX11_bounds_106 L σ_9
    else
      b2 (FX11_wrong (5 : Int32) (σ_3.1 7) σ_3) fun r_12 σ_12 =>
      some (r_12, σ_12)
def FX11_namedValue_23 (L : Nat)  (x1 : Int32) (σ1 : MS) : Option (Int32 × MS) :=
    b2 (FX11_wrong (2 : Int32) x1 σ1) fun r_3 σ_3 =>
    some (r_3, σ_3)
def FX11_namedValue (L : Nat) (p0 : Int32) (σ : MS) : Option (Int32 × MS) :=
  b2 (FX11_find L p0 σ) fun r_1 σ_1 =>
  if r_1 = (-1 : Int32) then
    FX11_namedValue_23 L p0 σ_1
  else
    if (r_1 < 0 ∨ 44 ≤ r_1.toNatClampNeg) then none else
    if ((2 : Int32) = 0) then none else
    if ((σ_1.2.1 21 r_1.toNatClampNeg) - (σ_1.2.1 21 r_1.toNatClampNeg) / (2 : Int32) * (2 : Int32)) = (1 : Int32) then
      FX11_namedValue_23 L p0 σ_1
    else
      if (r_1 < 0 ∨ 44 ≤ r_1.toNatClampNeg) then none else
      if (σ_1.2.1 21 r_1.toNatClampNeg) = 0 then
        if (r_1 < 0 ∨ 44 ≤ r_1.toNatClampNeg) then none else
        if (p0 < 0 ∨ 1801 ≤ p0.toNatClampNeg) then none else
        b2 (FX11_node (21 : Int32) (σ_1.2.1 22 r_1.toNatClampNeg) (-1 : Int32) (-1 : Int32) (σ_1.2.1 5 p0.toNatClampNeg) σ_1) fun r_15 σ_15 =>
        some (r_15, σ_15)
      else
        if (r_1 < 0 ∨ 44 ≤ r_1.toNatClampNeg) then none else
        if (((24 : Int32) + (σ_1.2.1 22 r_1.toNatClampNeg)) < 0 ∨ 48 ≤ ((24 : Int32) + (σ_1.2.1 22 r_1.toNatClampNeg)).toNatClampNeg) then none else
        if (p0 < 0 ∨ 1801 ≤ p0.toNatClampNeg) then none else
        b2 (FX11_node (22 : Int32) (σ_1.2.1 25 ((24 : Int32) + (σ_1.2.1 22 r_1.toNatClampNeg)).toNatClampNeg) (-1 : Int32) (-1 : Int32) (σ_1.2.1 5 p0.toNatClampNeg) σ_1) fun r_12 σ_12 =>
        some (r_12, σ_12)
def FX11_formula (rc : RC) (L : Nat)  (σ : MS) : Option (Int32 × MS) :=
  b2 (rc 1 0 0 11 σ) fun r_1 σ_1 =>
  if r_1 = 0 then
    b2 (FX11_sees L 12 σ_1) fun r_3 σ_3 =>
    if r_3 = 0 then
      some (r_1, σ_3)
    else
      b2 (rc 0 0 0 0 (sI σ_3 7 ((σ_3.1 7) + (1 : Int32)))) fun r_5 σ_5 =>
      if r_5 = 0 then
        if ((σ_3.1 17) < 0 ∨ 1203 ≤ (σ_3.1 17).toNatClampNeg) then none else
        b2 (FX11_node (13 : Int32) (σ_3.1 17) (σ_5.1 17) (-1 : Int32) (σ_5.2.1 15 (σ_3.1 17).toNatClampNeg) σ_5) fun r_8 σ_8 =>
        some (r_8, σ_8)
      else
        some (r_5, σ_5)
  else
    some (r_1, σ_1)
def FX11_row_94 (rc : RC) (L : Nat) (w : Nat) (k32 : Int32 → Int32 → MS → Option (Int32 × MS)) (x2 : Int32) (x3 : Int32) (x4 : Int32) (y1 : Int32) (σ1 : MS) : Option (Int32 × MS) :=
    if (x4 < 0 ∨ 1203 ≤ x4.toNatClampNeg) then none else
    b2 (FX11_node y1 x4 (σ1.1 17) (-1 : Int32) (σ1.2.1 15 x4.toNatClampNeg) σ1) fun r_13 σ_13 =>
    k32 x2 x3 σ_13
def FX11_row_77 (rc : RC) (L : Nat) (w : Nat) (k32 : Int32 → Int32 → MS → Option (Int32 × MS)) (x2 : Int32) (x4 : Int32) (y0 : Int32) (σ1 : MS) : Option (Int32 × MS) :=
    if y0 = 0 then
      if x2 = 0 then
        FX11_row_94 rc L w k32 x2 y0 x4 (11 : Int32) σ1
      else
        FX11_row_94 rc L w k32 x2 y0 x4 (12 : Int32) σ1
    else
      k32 x2 y0 σ1
def FX11_row_32 (rc : RC) (L : Nat) (w : Nat)  : Nat → Int32 → Int32 → MS → Option (Int32 × MS)
  | 0, _, _, _ => none
  | n+1, x2, x3, σ1 =>
    if x3 = 0 then
      b2 (FX11_sees L w σ1) fun r_6 σ_6 =>
      if r_6 = 0 then
        some (x3, σ_6)
      else
        if x2 = 0 then
          b2 (rc 2 0 0 0 (sI σ_6 7 ((σ_6.1 7) + (1 : Int32)))) fun r_9 σ_9 =>
          FX11_row_77 rc L w (FX11_row_32 rc L w n) x2 (σ_6.1 17) r_9 σ_9
        else
          b2 (rc 1 0 0 13 (sI σ_6 7 ((σ_6.1 7) + (1 : Int32)))) fun r_14 σ_14 =>
          FX11_row_77 rc L w (FX11_row_32 rc L w n) x2 (σ_6.1 17) r_14 σ_14
    else
      some (x3, σ1)
def FX11_row_13 (rc : RC) (L : Nat) (w : Nat)  (y0 : Int32) (σ1 : MS) : Option (Int32 × MS) :=
    if y0 = 0 then
      b2 (rc 2 0 0 0 σ1) fun r_4 σ_4 =>
      FX11_row_32 rc L w L y0 r_4 σ_4
    else
      b2 (rc 1 0 0 13 σ1) fun r_15 σ_15 =>
      FX11_row_32 rc L w L y0 r_15 σ_15
def FX11_row (rc : RC) (L : Nat) (w : Nat) (σ : MS) : Option (Int32 × MS) :=
  if ¬ (w < 53) then none else
  (FJ0_length_8abf5 w).bind fun r_1 =>
  if r_1 = (2 : Int32) then
    FX11_row_13 rc L w (1 : Int32) σ
  else
    FX11_row_13 rc L w (0 : Int32) σ
def FX11_since_66 (rc : RC) (L : Nat)  (x1 : Int32) (x2 : Int32) (x3 : Int32) (x4 : Int32) (x5 : Int32) (σ1 : MS) : Option (Int32 × MS) :=
    if x2 = 0 then
      if (x1 < 0 ∨ 1801 ≤ x1.toNatClampNeg) then none else
      b2 (FX11_node (10 : Int32) x3 (σ1.1 17) (-1 : Int32) (σ1.2.1 5 x1.toNatClampNeg) σ1) fun r_9 σ_9 =>
      if ((σ_9.1 17) < 0 ∨ 1203 ≤ (σ_9.1 17).toNatClampNeg) then none else
      if ((σ_9.1 17) < 0 ∨ 1203 ≤ (σ_9.1 17).toNatClampNeg) then none else
      some ((0 : Int32), (sA (sA σ_9 13 (upd (σ_9.2.1 13) (σ_9.1 17).toNatClampNeg x4)) 14 (upd (σ_9.2.1 14) (σ_9.1 17).toNatClampNeg x5)))
    else
      some (x2, σ1)
def FX11_since (rc : RC) (L : Nat)  (σ : MS) : Option (Int32 × MS) :=
  b2 (rc 3 0 0 0 σ) fun r_1 σ_1 =>
  if r_1 = 0 then
    b2 (FX11_sees L 14 σ_1) fun r_3 σ_3 =>
    if r_3 = 0 then
      some (r_1, σ_3)
    else
      b2 (FX11_bounds L (sI σ_3 7 ((σ_3.1 7) + (1 : Int32)))) fun r_5 σ_5 =>
      if r_5 = 0 then
        b2 (rc 3 0 0 0 σ_5) fun r_12 σ_12 =>
        FX11_since_66 rc L (σ.1 7) r_12 (σ_3.1 17) (σ_5.1 37) (σ_5.1 38) σ_12
      else
        FX11_since_66 rc L (σ.1 7) r_5 (σ_3.1 17) (σ_5.1 37) (σ_5.1 38) σ_5
  else
    some (r_1, σ_1)
def FX11_one_111 (rc : RC) (L : Nat)  (x1 : Int32) (y1 : Int32) (σ1 : MS) : Option (Int32 × MS) :=
    if (x1 < 0 ∨ 1801 ≤ x1.toNatClampNeg) then none else
    b2 (FX11_node y1 (-1 : Int32) (-1 : Int32) (-1 : Int32) (σ1.2.1 5 x1.toNatClampNeg) σ1) fun r_10 σ_10 =>
    some (r_10, σ_10)
def FX11_one_83 (rc : RC) (L : Nat)  (x1 : Int32) (σ1 : MS) : Option (Int32 × MS) :=
    b2 (FX11_is L x1 20 (sI σ1 7 ((σ1.1 7) + (1 : Int32)))) fun r_7 σ_7 =>
    if r_7 = 0 then
      FX11_one_111 rc L x1 (7 : Int32) σ_7
    else
      FX11_one_111 rc L x1 (6 : Int32) σ_7
def FX11_one_174 (rc : RC) (L : Nat)   (σ1 : MS) : Option (Int32 × MS) :=
    b2 (FX11_wrong (2 : Int32) (σ1.1 7) σ1) fun r_17 σ_17 =>
    some (r_17, σ_17)
def FX11_one (rc : RC) (L : Nat)  (σ : MS) : Option (Int32 × MS) :=
  b2 (FX11_which L (σ.1 7) 3 σ) fun r_1 σ_1 =>
  if r_1 = (-1 : Int32) then
    b2 (FX11_sees L 18 σ_1) fun r_3 σ_3 =>
    if r_3 = 0 then
      b2 (FX11_sees L 20 σ_3) fun r_5 σ_5 =>
      if r_5 = 0 then
        b2 (FX11_sees L 21 σ_5) fun r_11 σ_11 =>
        if r_11 = 0 then
          b2 (FX11_sees L 22 σ_11) fun r_13 σ_13 =>
          if r_13 = 0 then
            b2 (rc 5 (σ.1 7) 0 0 σ_13) fun r_26 σ_26 =>
            some (r_26, σ_26)
          else
            b2 (FX11_find L ((σ_13.1 7) + (1 : Int32)) (sI σ_13 7 ((σ_13.1 7) + (1 : Int32)))) fun r_15 σ_15 =>
            if r_15 = (-1 : Int32) then
              FX11_one_174 rc L σ_15
            else
              if (r_15 < 0 ∨ 44 ≤ r_15.toNatClampNeg) then none else
              if ((2 : Int32) = 0) then none else
              if ((σ_15.2.1 21 r_15.toNatClampNeg) - (σ_15.2.1 21 r_15.toNatClampNeg) / (2 : Int32) * (2 : Int32)) = 0 then
                FX11_one_174 rc L σ_15
              else
                if (r_15 < 0 ∨ 44 ≤ r_15.toNatClampNeg) then none else
                if (r_15 < 0 ∨ 44 ≤ r_15.toNatClampNeg) then none else
                if ((((12 : Int32) * (σ_15.2.1 21 r_15.toNatClampNeg)) + (σ_15.2.1 22 r_15.toNatClampNeg)) < 0 ∨ 48 ≤ (((12 : Int32) * (σ_15.2.1 21 r_15.toNatClampNeg)) + (σ_15.2.1 22 r_15.toNatClampNeg)).toNatClampNeg) then none else
                if ((σ.1 7) < 0 ∨ 1801 ≤ (σ.1 7).toNatClampNeg) then none else
                b2 (FX11_node (8 : Int32) (σ_15.2.1 25 (((12 : Int32) * (σ_15.2.1 21 r_15.toNatClampNeg)) + (σ_15.2.1 22 r_15.toNatClampNeg)).toNatClampNeg) (-1 : Int32) (-1 : Int32) (σ_15.2.1 5 (σ.1 7).toNatClampNeg) (sI σ_15 7 ((σ_15.1 7) + (1 : Int32)))) fun r_25 σ_25 =>
                some (r_25, σ_25)
        else
          FX11_one_83 rc L (σ.1 7) σ_11
      else
        FX11_one_83 rc L (σ.1 7) σ_5
    else
      b2 (rc 0 0 0 0 (sI σ_3 7 ((σ_3.1 7) + (1 : Int32)))) fun r_27 σ_27 =>
      some (r_27, (sI σ_27 7 ((σ_27.1 7) + (1 : Int32))))
  else
    b2 (rc 4 (σ.1 7) r_1 0 σ_1) fun r_28 σ_28 =>
    some (r_28, σ_28)
def FX11_fronted_63 (rc : RC) (L : Nat)  (x1 : Int32) (x2 : Int32) (x3 : Int32) (x4 : Int32) (x5 : Int32) (σ1 : MS) : Option (Int32 × MS) :=
    if x3 = 0 then
      if (x1 < 0 ∨ 1801 ≤ x1.toNatClampNeg) then none else
      b2 (FX11_node x2 (σ1.1 17) (-1 : Int32) (-1 : Int32) (σ1.2.1 5 x1.toNatClampNeg) σ1) fun r_8 σ_8 =>
      if ((σ_8.1 17) < 0 ∨ 1203 ≤ (σ_8.1 17).toNatClampNeg) then none else
      if ((σ_8.1 17) < 0 ∨ 1203 ≤ (σ_8.1 17).toNatClampNeg) then none else
      some ((0 : Int32), (sA (sA σ_8 13 (upd (σ_8.2.1 13) (σ_8.1 17).toNatClampNeg x4)) 14 (upd (σ_8.2.1 14) (σ_8.1 17).toNatClampNeg x5)))
    else
      some (x3, σ1)
def FX11_fronted_52 (rc : RC) (L : Nat)  (x1 : Int32) (x2 : Int32) (x3 : Int32) (x4 : Int32) (y0 : Int32) (σ1 : MS) : Option (Int32 × MS) :=
    if x3 = 0 then
      b2 (rc 3 0 0 0 σ1) fun r_11 σ_11 =>
      FX11_fronted_63 rc L x1 x2 r_11 x4 y0 σ_11
    else
      FX11_fronted_63 rc L x1 x2 x3 x4 y0 σ1
def FX11_fronted_37 (rc : RC) (L : Nat)  (x1 : Int32) (x2 : Int32) (x3 : Int32) (y0 : Int32) (σ1 : MS) : Option (Int32 × MS) :=
    if (4 : Int32) ≤ x2 then
      FX11_fronted_52 rc L x1 x2 x3 y0 (σ1.1 38) σ1
    else
      FX11_fronted_52 rc L x1 x2 x3 y0 (-1 : Int32) σ1
def FX11_fronted_23 (rc : RC) (L : Nat)  (x1 : Int32) (x2 : Int32) (y0 : Int32) (σ1 : MS) : Option (Int32 × MS) :=
    if (4 : Int32) ≤ x2 then
      FX11_fronted_37 rc L x1 x2 y0 (σ1.1 37) σ1
    else
      FX11_fronted_37 rc L x1 x2 y0 (0 : Int32) σ1
def FX11_fronted (rc : RC) (L : Nat) (p0 : Int32) (p1 : Int32) (σ : MS) : Option (Int32 × MS) :=
  if (4 : Int32) ≤ p1 then
    b2 (FX11_bounds L (sI σ 7 ((σ.1 7) + (1 : Int32)))) fun r_2 σ_2 =>
    FX11_fronted_23 rc L p0 p1 r_2 σ_2
  else
    FX11_fronted_23 rc L p0 p1 (0 : Int32) (sI σ 7 ((σ.1 7) + (1 : Int32)))
def FX11_compare (rc : RC) (L : Nat) (p0 : Int32) (σ : MS) : Option (Int32 × MS) :=
  b2 (rc 6 0 0 0 σ) fun r_1 σ_1 =>
  if r_1 = 0 then
    b2 (FX11_which L (σ_1.1 7) 1 σ_1) fun r_3 σ_3 =>
    b2 (rc 6 0 0 0 (sI σ_3 7 ((σ_3.1 7) + (1 : Int32)))) fun r_4 σ_4 =>
    if r_4 = 0 then
      if (p0 < 0 ∨ 1801 ≤ p0.toNatClampNeg) then none else
      b2 (FX11_node (9 : Int32) (σ_1.1 17) (σ_4.1 17) r_3 (σ_4.2.1 5 p0.toNatClampNeg) σ_4) fun r_7 σ_7 =>
      some (r_7, σ_7)
    else
      some (r_4, σ_4)
  else
    some (r_1, σ_1)
def FX11_expression_27 (rc : RC) (L : Nat) (k5 : Int32 → MS → Option (Int32 × MS))  (σ1 : MS) : Option (Int32 × MS) :=
    b2 (rc 8 (1 : Int32) 0 0 σ1) fun r_5 σ_5 =>
    k5 r_5 σ_5
def FX11_expression_5 (rc : RC) (L : Nat)  : Nat → Int32 → MS → Option (Int32 × MS)
  | 0, _, _ => none
  | n+1, x1, σ1 =>
    if x1 = 0 then
      b2 (FX11_sees L 23 σ1) fun r_3 σ_3 =>
      if r_3 = 0 then
        b2 (FX11_sees L 3 σ_3) fun r_6 σ_6 =>
        if r_6 = 0 then
          some (x1, σ_6)
        else
          FX11_expression_27 rc L (FX11_expression_5 rc L n) σ_6
      else
        FX11_expression_27 rc L (FX11_expression_5 rc L n) σ_3
    else
      some (x1, σ1)
def FX11_expression (rc : RC) (L : Nat)  (σ : MS) : Option (Int32 × MS) :=
  b2 (rc 7 0 0 0 σ) fun r_1 σ_1 =>
  FX11_expression_5 rc L L r_1 σ_1
def FX11_product_37 (rc : RC) (L : Nat) (k5 : Int32 → MS → Option (Int32 × MS))  (σ1 : MS) : Option (Int32 × MS) :=
    b2 (rc 8 (0 : Int32) 0 0 σ1) fun r_5 σ_5 =>
    k5 r_5 σ_5
def FX11_product_5 (rc : RC) (L : Nat)  : Nat → Int32 → MS → Option (Int32 × MS)
  | 0, _, _ => none
  | n+1, x1, σ1 =>
    if x1 = 0 then
      b2 (FX11_sees L 24 σ1) fun r_3 σ_3 =>
      if r_3 = 0 then
        b2 (FX11_sees L 25 σ_3) fun r_6 σ_6 =>
        if r_6 = 0 then
          b2 (FX11_sees L 26 σ_6) fun r_8 σ_8 =>
          if r_8 = 0 then
            some (x1, σ_8)
          else
            FX11_product_37 rc L (FX11_product_5 rc L n) σ_8
        else
          FX11_product_37 rc L (FX11_product_5 rc L n) σ_6
      else
        FX11_product_37 rc L (FX11_product_5 rc L n) σ_3
    else
      some (x1, σ1)
def FX11_product (rc : RC) (L : Nat)  (σ : MS) : Option (Int32 × MS) :=
  b2 (rc 10 0 0 0 σ) fun r_1 σ_1 =>
  FX11_product_5 rc L L r_1 σ_1
def FX11_twoSided_42 (rc : RC) (L : Nat)  (x2 : Int32) (x3 : Int32) (y0 : Int32) (σ1 : MS) : Option (Int32 × MS) :=
    if y0 = 0 then
      if (x2 < 0 ∨ 1203 ≤ x2.toNatClampNeg) then none else
      b2 (FX11_node (34 : Int32) x2 (σ1.1 17) x3 (σ1.2.1 15 x2.toNatClampNeg) σ1) fun r_6 σ_6 =>
      some (r_6, σ_6)
    else
      some (y0, σ1)
def FX11_twoSided (rc : RC) (L : Nat) (p0 : Int32) (σ : MS) : Option (Int32 × MS) :=
  b2 (FX11_which L (σ.1 7) 2 σ) fun r_1 σ_1 =>
  if p0 = 0 then
    b2 (rc 10 0 0 0 (sI σ_1 7 ((σ_1.1 7) + (1 : Int32)))) fun r_3 σ_3 =>
    FX11_twoSided_42 rc L (σ.1 17) r_1 r_3 σ_3
  else
    b2 (rc 7 0 0 0 (sI σ_1 7 ((σ_1.1 7) + (1 : Int32)))) fun r_7 σ_7 =>
    FX11_twoSided_42 rc L (σ.1 17) r_1 r_7 σ_7
def FX11_braces (rc : RC)  (σ : MS) : Option (Int32 × MS) :=
  b2 (rc 0 0 0 0 (sI σ 7 ((σ.1 7) + (1 : Int32)))) fun r_1 σ_1 =>
  some (r_1, (sI σ_1 7 ((σ_1.1 7) + (1 : Int32))))
def FX11_factor_239 (rc : RC) (L : Nat)  (x2 : Int32) (x5 : Int32) (y1 : Int32) (σ1 : MS) : Option (Int32 × MS) :=
    b2 (FX11_node y1 x5 (-1 : Int32) (-1 : Int32) x2 σ1) fun r_20 σ_20 =>
    some (r_20, σ_20)
def FX11_factor_220 (rc : RC) (L : Nat)  (x1 : Int32) (x2 : Int32) (x5 : Int32) (σ1 : MS) : Option (Int32 × MS) :=
    b2 (FX11_is L x1 31 σ1) fun r_18 σ_18 =>
    if r_18 = 0 then
      FX11_factor_239 rc L x2 x5 (31 : Int32) σ_18
    else
      FX11_factor_239 rc L x2 x5 (30 : Int32) σ_18
def FX11_factor_269 (rc : RC) (L : Nat)  (x1 : Int32) (x2 : Int32) (x5 : Int32) (σ1 : MS) : Option (Int32 × MS) :=
    b2 (rc 10 0 0 0 σ1) fun r_25 σ_25 =>
    if r_25 = 0 then
      b2 (FX11_is L x1 33 σ_25) fun r_27 σ_27 =>
      if r_27 = 0 then
        b2 (rc 10 0 0 0 (sI σ_27 7 ((σ_27.1 7) + (1 : Int32)))) fun r_29 σ_29 =>
        if r_29 = 0 then
          b2 (FX11_node (33 : Int32) x5 (σ_25.1 17) (σ_29.1 17) x2 σ_29) fun r_31 σ_31 =>
          some (r_31, σ_31)
        else
          some (r_29, σ_29)
      else
        b2 (FX11_node (32 : Int32) x5 (σ_25.1 17) (-1 : Int32) x2 σ_27) fun r_32 σ_32 =>
        some (r_32, σ_32)
    else
      some (r_25, σ_25)
def FX11_factor (rc : RC) (L : Nat)  (σ : MS) : Option (Int32 × MS) :=
  if ((σ.1 7) < 0 ∨ 1801 ≤ (σ.1 7).toNatClampNeg) then none else
  if ((σ.1 7) < 0 ∨ 1801 ≤ (σ.1 7).toNatClampNeg) then none else
  if (σ.2.1 4 (σ.1 7).toNatClampNeg) = (2 : Int32) then
    b2 (FX11_numberOf L (σ.1 7) (sI σ 7 ((σ.1 7) + (1 : Int32)))) fun r_40 σ_40 =>
    b2 (FX11_node (20 : Int32) r_40 (-1 : Int32) (-1 : Int32) (σ.2.1 5 (σ.1 7).toNatClampNeg) σ_40) fun r_41 σ_41 =>
    some (r_41, σ_41)
  else
    b2 (FX11_is L (σ.1 7) 27 (sI σ 7 ((σ.1 7) + (1 : Int32)))) fun r_4 σ_4 =>
    if r_4 = 0 then
      b2 (FX11_is L (σ.1 7) 28 σ_4) fun r_6 σ_6 =>
      if r_6 = 0 then
        b2 (FX11_isName L (σ.1 7) σ_6) fun r_8 σ_8 =>
        if r_8 = 0 then
          b2 (FX11_is L (σ.1 7) 29 σ_8) fun r_10 σ_10 =>
          if r_10 = 0 then
            b2 (FX11_which L (σ.1 7) 4 σ_10) fun r_12 σ_12 =>
            if r_12 = (-1 : Int32) then
              b2 (rc 9 0 0 0 σ_12) fun r_14 σ_14 =>
              if r_14 = 0 then
                b2 (FX11_is L (σ.1 7) 31 σ_14) fun r_16 σ_16 =>
                if r_16 = 0 then
                  b2 (FX11_is L (σ.1 7) 32 σ_16) fun r_21 σ_21 =>
                  if r_21 = 0 then
                    b2 (FX11_is L (σ.1 7) 34 σ_21) fun r_23 σ_23 =>
                    if r_23 = 0 then
                      FX11_factor_269 rc L (σ.1 7) (σ.2.1 5 (σ.1 7).toNatClampNeg) (σ_14.1 17) σ_23
                    else
                      FX11_factor_269 rc L (σ.1 7) (σ.2.1 5 (σ.1 7).toNatClampNeg) (σ_14.1 17) (sI σ_23 7 ((σ_23.1 7) + (1 : Int32)))
                  else
                    FX11_factor_220 rc L (σ.1 7) (σ.2.1 5 (σ.1 7).toNatClampNeg) (σ_14.1 17) σ_21
                else
                  FX11_factor_220 rc L (σ.1 7) (σ.2.1 5 (σ.1 7).toNatClampNeg) (σ_14.1 17) σ_16
              else
                some (r_14, σ_14)
            else
              b2 (rc 10 0 0 0 σ_12) fun r_33 σ_33 =>
              if r_33 = 0 then
                b2 (FX11_node ((25 : Int32) + r_12) (σ_33.1 17) (-1 : Int32) (-1 : Int32) (σ.2.1 5 (σ.1 7).toNatClampNeg) σ_33) fun r_35 σ_35 =>
                some (r_35, σ_35)
              else
                some (r_33, σ_33)
          else
            b2 (rc 6 0 0 0 σ_10) fun r_36 σ_36 =>
            some (r_36, (sI σ_36 7 ((σ_36.1 7) + (1 : Int32))))
        else
          b2 (FX11_namedValue L (σ.1 7) σ_8) fun r_37 σ_37 =>
          some (r_37, σ_37)
      else
        b2 (FX11_node (24 : Int32) (-1 : Int32) (-1 : Int32) (-1 : Int32) (σ.2.1 5 (σ.1 7).toNatClampNeg) σ_6) fun r_38 σ_38 =>
        some (r_38, σ_38)
    else
      b2 (FX11_node (23 : Int32) (-1 : Int32) (-1 : Int32) (-1 : Int32) (σ.2.1 5 (σ.1 7).toNatClampNeg) σ_4) fun r_39 σ_39 =>
      some (r_39, σ_39)
def FSC2 (L : Nat) : Nat → RC
  | 0 => fun _ _ _ _ _ => none
  | d+1 => fun k a b w σ => if k = 0 then FX11_formula (FSC2 L d) L  σ else if k = 1 then FX11_row (FSC2 L d) L w σ else if k = 2 then FX11_since (FSC2 L d) L  σ else if k = 3 then FX11_one (FSC2 L d) L  σ else if k = 4 then FX11_fronted (FSC2 L d) L a b σ else if k = 5 then FX11_compare (FSC2 L d) L a σ else if k = 6 then FX11_expression (FSC2 L d) L  σ else if k = 7 then FX11_product (FSC2 L d) L  σ else if k = 8 then FX11_twoSided (FSC2 L d) L a σ else if k = 9 then FX11_braces (FSC2 L d)  σ else if k = 10 then FX11_factor (FSC2 L d) L  σ else none
theorem FSC2_0 {L d : Nat}  {σ : MS} : FSC2 L (d + 1) 0 0 0 0 σ = FX11_formula (FSC2 L d) L  σ := rfl
theorem FSC2_1 {L d : Nat} {w : Nat} {σ : MS} : FSC2 L (d + 1) 1 0 0 w σ = FX11_row (FSC2 L d) L w σ := rfl
theorem FSC2_2 {L d : Nat}  {σ : MS} : FSC2 L (d + 1) 2 0 0 0 σ = FX11_since (FSC2 L d) L  σ := rfl
theorem FSC2_3 {L d : Nat}  {σ : MS} : FSC2 L (d + 1) 3 0 0 0 σ = FX11_one (FSC2 L d) L  σ := rfl
theorem FSC2_4 {L d : Nat} {a : Int32} {b : Int32} {σ : MS} : FSC2 L (d + 1) 4 a b 0 σ = FX11_fronted (FSC2 L d) L a b σ := rfl
theorem FSC2_5 {L d : Nat} {a : Int32} {σ : MS} : FSC2 L (d + 1) 5 a 0 0 σ = FX11_compare (FSC2 L d) L a σ := rfl
theorem FSC2_6 {L d : Nat}  {σ : MS} : FSC2 L (d + 1) 6 0 0 0 σ = FX11_expression (FSC2 L d) L  σ := rfl
theorem FSC2_7 {L d : Nat}  {σ : MS} : FSC2 L (d + 1) 7 0 0 0 σ = FX11_product (FSC2 L d) L  σ := rfl
theorem FSC2_8 {L d : Nat} {a : Int32} {σ : MS} : FSC2 L (d + 1) 8 a 0 0 σ = FX11_twoSided (FSC2 L d) L a σ := rfl
theorem FSC2_9 {L d : Nat}  {σ : MS} : FSC2 L (d + 1) 9 0 0 0 σ = FX11_braces (FSC2 L d)  σ := rfl
theorem FSC2_10 {L d : Nat}  {σ : MS} : FSC2 L (d + 1) 10 0 0 0 σ = FX11_factor (FSC2 L d) L  σ := rfl
def dSC2 : Nat := 700
def FX11_why_21 (L : Nat)   (σ1 : MS) : Option (Int32 × MS) :=
    b2 (FX11_no (1 : Int32) σ1) fun r_3 σ_3 =>
    some (r_3, σ_3)
def FX11_why (L : Nat) (p0 : Int32) (p1 : Int32) (p2 : Int32) (σ : MS) : Option (Int32 × MS) :=
  b2 (FX11_isWatch p0 (sI σ 0 (0 : Int32))) fun r_1 σ_1 =>
  if r_1 = 0 then
    FX11_why_21 L σ_1
  else
    b2 (FX11_isStep p1 σ_1) fun r_4 σ_4 =>
    if r_4 = 0 then
      FX11_why_21 L σ_4
    else
      b2 (FX11_watches p0 p1 σ_4) fun r_6 σ_6 =>
      if r_6 = 0 then
        if (((36 : Int32) + p0) < 0 ∨ 48 ≤ ((36 : Int32) + p0).toNatClampNeg) then none else
        b2 (FSC3 L dSC3 0 (σ_6.2.1 25 ((36 : Int32) + p0).toNatClampNeg) p1 0 σ_6) fun r_9 σ_9 =>
        if p2 = 0 then
          some (r_9, σ_9)
        else
          some (σ_9.1 39, σ_9)
      else
        b2 (FX11_no (2 : Int32) σ_6) fun r_11 σ_11 =>
        some (r_11, σ_11)
def FX11_ask_92 (L : Nat)  (x1 : Int32) (x2 : Int32) (σ1 : MS) : Option (Int32 × MS) :=
    if x1 = 0 then
      b2 (FX11_moveQuestion L x2 (sI σ1 2 (0 : Int32))) fun r_8 σ_8 =>
      some ((0 : Int32), (sI (sI σ_8 28 r_8) 40 (σ_8.1 8)))
    else
      some (x1, (sI σ1 2 (0 : Int32)))
def FX11_ask_77 (L : Nat)  (x1 : Int32) (y0 : Int32) (σ1 : MS) : Option (Int32 × MS) :=
    if x1 = 0 then
      b2 (FSC2 L dSC2 0 0 0 0 (sI σ1 8 y0)) fun r_9 σ_9 =>
      FX11_ask_92 L r_9 y0 σ_9
    else
      FX11_ask_92 L x1 y0 (sI σ1 8 y0)
def FX11_ask_52 (L : Nat)  (y0 : Int32) (σ1 : MS) : Option (Int32 × MS) :=
    if (σ1.1 28) = (-1 : Int32) then
      FX11_ask_77 L y0 (σ1.1 27) (sI σ1 7 (0 : Int32))
    else
      FX11_ask_77 L y0 (σ1.1 40) (sI σ1 7 (0 : Int32))
def FX11_ask_43 (L : Nat)   (σ1 : MS) : Option (Int32 × MS) :=
    b2 (FX11_wrong (1 : Int32) (σ1.1 7) σ1) fun r_4 σ_4 =>
    FX11_ask_52 L r_4 σ_4
def FX11_ask (L : Nat)  (σ : MS) : Option (Int32 × MS) :=
  b2 (FX11_scan L (sI (sI σ 0 (0 : Int32)) 3 (-1 : Int32))) fun (_ : Unit) σ_1 =>
  b2 (FSC1 L dSC1 0 (0 : Int32) 0 0 (sI σ_1 7 (0 : Int32))) fun r_2 σ_2 =>
  if r_2 = 0 then
    FX11_ask_43 L σ_2
  else
    if ((σ_2.1 7) < 0 ∨ 1801 ≤ (σ_2.1 7).toNatClampNeg) then none else
    if (σ_2.2.1 4 (σ_2.1 7).toNatClampNeg) = 0 then
      FX11_ask_52 L (0 : Int32) σ_2
    else
      FX11_ask_43 L σ_2
def FX11_feed_80 (L : Nat) (k63 : Int32 → Int32 → (Nat → Int32) → MS → Option (Int32 × MS)) : Nat → Int32 → Int32 → Int32 → Int32 → (Nat → Int32) → MS → Option (Int32 × MS)
  | 0, _, _, _, _, _, _ => none
  | n+1, x8, x9, x10, x11, xc, σ1 =>
    if x11 < 0 then
      k63 x8 (x9 + (1 : Int32)) xc σ1
    else
      if ((σ1.1 2) < 0 ∨ 1800 ≤ (σ1.1 2).toNatClampNeg) then none else
      (FX11_feed_80 L k63 n) x8 x9 x10 (x11 + (-1 : Int32)) xc (sI (sA σ1 1 (upd (σ1.2.1 1) (σ1.1 2).toNatClampNeg ((x10 >>> (((8 : Int32) * x11) &&& 31)) &&& (255 : Int32)))) 2 ((σ1.1 2) + (1 : Int32)))
def FX11_feed_63 (L : Nat)  : Nat → Int32 → Int32 → (Nat → Int32) → MS → Option (Int32 × MS)
  | 0, _, _, _, _ => none
  | n+1, x8, x9, xc, σ1 =>
    if x8 ≤ x9 then
      some (σ1.1 2, σ1)
    else
      if (x9 < 0 ∨ 5 ≤ x9.toNatClampNeg) then none else
      FX11_feed_80 L (FX11_feed_63 L n) L x8 x9 (xc x9.toNatClampNeg) (3 : Int32) xc σ1
def FX11_feed (L : Nat) (p0 : Int32) (p1 : Int32) (p2 : Int32) (p3 : Int32) (p4 : Int32) (σ : MS) : Option (Int32 × MS) :=
  if ((σ.1 2) + (20 : Int32)) ≤ (1800 : Int32) then
    FX11_feed_63 L L (5 : Int32) (0 : Int32) (upd (upd (upd (upd (upd (fun _ => 0) (0 : Int32).toNatClampNeg p0) (1 : Int32).toNatClampNeg p1) (2 : Int32).toNatClampNeg p2) (3 : Int32).toNatClampNeg p3) (4 : Int32).toNatClampNeg p4) (sI σ 0 (0 : Int32))
  else
    b2 (FX11_no (1 : Int32) (sI σ 0 (0 : Int32))) fun r_6 σ_6 =>
    some (r_6, σ_6)
def FX11_keep  (σ : MS) : Option (Int32 × MS) :=
  if ((0 : Int32) < 0 ∨ 4 ≤ (0 : Int32).toNatClampNeg) then none else
  some (σ.1 29, (sB (sA (sI (sI (sI σ 0 (0 : Int32)) 33 (σ.1 29)) 34 (σ.2.1 23 (0 : Int32).toNatClampNeg)) 35 (va_cpy (σ.2.1 30) (σ.2.1 35) 0 0 120)) 36 (va_cpy (σ.2.2 31) (σ.2.2 36) 0 0 960)))
def FX11_itemMeant_334 (L : Nat)  (x3 : Int32) (x4 : Int32) (σ1 : MS) : Option (Int32 × MS) :=
    b2 (FX11_nameOf L x4 σ1) fun r_15 σ_15 =>
    if ((σ1.1 19) < 0 ∨ 44 ≤ (σ1.1 19).toNatClampNeg) then none else
    if ((σ_15.1 19) < 0 ∨ 44 ≤ (σ_15.1 19).toNatClampNeg) then none else
    if (x3 < 0 ∨ 4 ≤ x3.toNatClampNeg) then none else
    if ((σ_15.1 19) < 0 ∨ 44 ≤ (σ_15.1 19).toNatClampNeg) then none else
    if (x3 < 0 ∨ 4 ≤ x3.toNatClampNeg) then none else
    if (x3 < 0 ∨ 4 ≤ x3.toNatClampNeg) then none else
    some ((0 : Int32), (sA (sI (sA (sA (sB σ_15 20 (vp_updL (σ_15.2.2 20) (σ1.1 19).toNatClampNeg r_15)) 21 (upd (σ_15.2.1 21) (σ_15.1 19).toNatClampNeg x3)) 22 (upd (σ_15.2.1 22) (σ_15.1 19).toNatClampNeg (σ_15.2.1 23 x3.toNatClampNeg))) 19 ((σ_15.1 19) + (1 : Int32))) 23 (upd (σ_15.2.1 23) x3.toNatClampNeg ((σ_15.2.1 23 x3.toNatClampNeg) + (1 : Int32)))))
def FX11_itemMeant_263 (L : Nat)  (x3 : Int32) (x4 : Int32) (σ1 : MS) : Option (Int32 × MS) :=
    b2 (FX11_sees L 10 σ1) fun r_13 σ_13 =>
    if r_13 = 0 then
      FX11_itemMeant_334 L x3 x4 σ_13
    else
      b2 (FX11_numberOf L ((σ_13.1 7) + (1 : Int32)) (sI σ_13 7 ((σ_13.1 7) + (1 : Int32)))) fun r_22 σ_22 =>
      if r_22 ≤ (9 : Int32) then
        if ((3 : Int32) < 0 ∨ 4 ≤ (3 : Int32).toNatClampNeg) then none else
        b2 (FX11_numberOf L (σ_22.1 7) σ_22) fun r_25 σ_25 =>
        if ((σ_22.2.1 23 (3 : Int32).toNatClampNeg) < 0 ∨ 12 ≤ (σ_22.2.1 23 (3 : Int32).toNatClampNeg).toNatClampNeg) then none else
        FX11_itemMeant_334 L x3 x4 (sI (sA σ_25 26 (upd (σ_25.2.1 26) (σ_22.2.1 23 (3 : Int32).toNatClampNeg).toNatClampNeg r_25)) 7 ((σ_25.1 7) + (1 : Int32)))
      else
        b2 (FX11_wrong (5 : Int32) (σ_22.1 7) σ_22) fun r_27 σ_27 =>
        some (r_27, σ_27)
def FX11_itemMeant_246 (L : Nat)  (x3 : Int32) (x4 : Int32) (σ1 : MS) : Option (Int32 × MS) :=
    if x3 = (3 : Int32) then
      if ((3 : Int32) < 0 ∨ 4 ≤ (3 : Int32).toNatClampNeg) then none else
      if ((σ1.2.1 23 (3 : Int32).toNatClampNeg) < 0 ∨ 12 ≤ (σ1.2.1 23 (3 : Int32).toNatClampNeg).toNatClampNeg) then none else
      FX11_itemMeant_263 L x3 x4 (sA σ1 26 (upd (σ1.2.1 26) (σ1.2.1 23 (3 : Int32).toNatClampNeg).toNatClampNeg (5 : Int32)))
    else
      FX11_itemMeant_263 L x3 x4 σ1
def FX11_itemMeant_214 (L : Nat)  (x3 : Int32) (x4 : Int32) (x5 : Int32) (σ1 : MS) : Option (Int32 × MS) :=
    if x5 = 0 then
      if x3 ≤ 0 then
        FX11_itemMeant_246 L x3 x4 σ1
      else
        if (x3 < 0 ∨ 4 ≤ x3.toNatClampNeg) then none else
        if ((((12 : Int32) * x3) + (σ1.2.1 23 x3.toNatClampNeg)) < 0 ∨ 48 ≤ (((12 : Int32) * x3) + (σ1.2.1 23 x3.toNatClampNeg)).toNatClampNeg) then none else
        FX11_itemMeant_246 L x3 x4 (sA σ1 25 (upd (σ1.2.1 25) (((12 : Int32) * x3) + (σ1.2.1 23 x3.toNatClampNeg)).toNatClampNeg (σ1.1 17)))
    else
      some (x5, σ1)
def FX11_itemMeant_212 (L : Nat)  (x3 : Int32) (x4 : Int32) (y0 : Int32) (σ1 : MS) : Option (Int32 × MS) :=
    FX11_itemMeant_214 L x3 x4 y0 σ1
def FX11_itemMeant_182 (L : Nat)  (x3 : Int32) (x4 : Int32) (x5 : Int32) (y1 : Int32) (y2 : Int64) (σ1 : MS) : Option (Int32 × MS) :=
    if (y1 < 0 ∨ 8 ≤ y1.toNatClampNeg) then none else
    FX11_itemMeant_214 L x3 x4 x5 (sI (sB σ1 24 (vp_updL (σ1.2.2 24) y1.toNatClampNeg y2)) 7 ((σ1.1 7) + (1 : Int32)))
def FX11_itemMeant_141 (L : Nat)  (x3 : Int32) (x4 : Int32) (x5 : Int32) (x6 : Int32) (y1 : Int32) (y2 : Int32) (σ1 : MS) : Option (Int32 × MS) :=
    if ((0 : Int32) < 0 ∨ 4 ≤ (0 : Int32).toNatClampNeg) then none else
    if x6 = 0 then
      b2 (FX11_numberOf L (y1 + y2) (sI σ1 7 (y1 + y2))) fun r_37 σ_37 =>
      FX11_itemMeant_182 L x3 x4 x5 (σ1.2.1 23 (0 : Int32).toNatClampNeg) r_37.toInt64 σ_37
    else
      b2 (FX11_numberOf L (y1 + y2) (sI σ1 7 (y1 + y2))) fun r_39 σ_39 =>
      FX11_itemMeant_182 L x3 x4 x5 (σ1.2.1 23 (0 : Int32).toNatClampNeg) ((-r_39).toInt64) σ_39
def FX11_itemMeant_57 (L : Nat)  (x2 : Int32) (x3 : Int32) (y0 : Int32) (y1 : Int32) (σ1 : MS) : Option (Int32 × MS) :=
    if y0 = y1 then
      b2 (FX11_wrong (4 : Int32) x2 σ1) fun r_41 σ_41 =>
      some (r_41, σ_41)
    else
      b2 (FX11_find L ((σ1.1 7) + (1 : Int32)) (sI σ1 7 ((σ1.1 7) + (1 : Int32)))) fun r_5 σ_5 =>
      if r_5 = (-1 : Int32) then
        if x3 = 0 then
          b2 (FX11_sees L 3 (sI σ_5 7 ((σ_5.1 7) + (2 : Int32)))) fun r_33 σ_33 =>
          if r_33 = 0 then
            FX11_itemMeant_141 L x3 ((σ1.1 7) + (1 : Int32)) (0 : Int32) r_33 (σ_33.1 7) (0 : Int32) σ_33
          else
            FX11_itemMeant_141 L x3 ((σ1.1 7) + (1 : Int32)) (0 : Int32) r_33 (σ_33.1 7) (1 : Int32) σ_33
        else
          if x3 = (2 : Int32) then
            b2 (FSC2 L dSC2 6 0 0 0 (sI σ_5 7 ((σ_5.1 7) + (2 : Int32)))) fun r_32 σ_32 =>
            FX11_itemMeant_212 L x3 ((σ1.1 7) + (1 : Int32)) r_32 σ_32
          else
            b2 (FSC2 L dSC2 0 0 0 0 (sI σ_5 7 ((σ_5.1 7) + (2 : Int32)))) fun r_9 σ_9 =>
            FX11_itemMeant_212 L x3 ((σ1.1 7) + (1 : Int32)) r_9 σ_9
      else
        b2 (FX11_wrong (3 : Int32) ((σ1.1 7) + (1 : Int32)) σ_5) fun r_40 σ_40 =>
        some (r_40, σ_40)
def FX11_itemMeant (L : Nat)  (σ : MS) : Option (Int32 × MS) :=
  b2 (FX11_which L (σ.1 7) 5 σ) fun r_1 σ_1 =>
  if (r_1 < 0 ∨ 4 ≤ r_1.toNatClampNeg) then none else
  if r_1 = 0 then
    FX11_itemMeant_57 L (σ.1 7) r_1 (σ_1.2.1 23 r_1.toNatClampNeg) (8 : Int32) σ_1
  else
    FX11_itemMeant_57 L (σ.1 7) r_1 (σ_1.2.1 23 r_1.toNatClampNeg) (12 : Int32) σ_1
def FX11_meaning_0 (L : Nat)  : Nat → MS → Option (Int32 × MS)
  | 0, _ => none
  | n+1, σ1 =>
    if ((σ1.1 7) < 0 ∨ 1801 ≤ (σ1.1 7).toNatClampNeg) then none else
    if (σ1.2.1 4 (σ1.1 7).toNatClampNeg) = 0 then
      if ((3 : Int32) < 0 ∨ 4 ≤ (3 : Int32).toNatClampNeg) then none else
      if (σ1.2.1 23 (3 : Int32).toNatClampNeg) = 0 then
        b2 (FX11_wrong (6 : Int32) (σ1.1 7) σ1) fun r_5 σ_5 =>
        some (r_5, σ_5)
      else
        some ((0 : Int32), σ1)
    else
      b2 (FX11_itemMeant L σ1) fun r_6 σ_6 =>
      if r_6 = 0 then
        (FX11_meaning_0 L n) (sI σ_6 7 ((σ_6.1 7) + (1 : Int32)))
      else
        some (r_6, σ_6)
def FX11_meaning (L : Nat)  (σ : MS) : Option (Int32 × MS) :=
  FX11_meaning_0 L 50 σ
def FX11_compile_81 (L : Nat)  (x1 : Int32) (y1 : Int32) (σ1 : MS) : Option (Int32 × MS) :=
    if (y1 ≠ 0 ∧ y1 ≠ 1) then none else
    b2 (FX11_begin L (sI (sI σ1 18 y1) 27 (σ1.1 8))) fun (_ : Unit) σ_10 =>
    some (x1, σ_10)
def FX11_compile_71 (L : Nat)  (x1 : Int32) (σ1 : MS) : Option (Int32 × MS) :=
    if x1 = 0 then
      FX11_compile_81 L x1 (1 : Int32) σ1
    else
      FX11_compile_81 L x1 (0 : Int32) σ1
def FX11_compile_58 (L : Nat)  (x1 : Int32) (σ1 : MS) : Option (Int32 × MS) :=
    if x1 = 0 then
      FX11_compile_71 L x1 (sI σ1 2 (0 : Int32))
    else
      b2 (FX11_forget L (sI σ1 2 (0 : Int32))) fun (_ : Unit) σ_11 =>
      FX11_compile_71 L x1 σ_11
def FX11_compile_43 (L : Nat)  (y0 : Int32) (σ1 : MS) : Option (Int32 × MS) :=
    if y0 = 0 then
      b2 (FX11_meaning L (sI σ1 7 (0 : Int32))) fun r_12 σ_12 =>
      FX11_compile_58 L r_12 σ_12
    else
      FX11_compile_58 L y0 (sI σ1 7 (0 : Int32))
def FX11_compile (L : Nat)  (σ : MS) : Option (Int32 × MS) :=
  b2 (FX11_forget L (sI σ 0 (0 : Int32))) fun (_ : Unit) σ_1 =>
  b2 (FX11_scan L (sI σ_1 3 (-1 : Int32))) fun (_ : Unit) σ_2 =>
  b2 (FX11_program L (sI σ_2 7 (0 : Int32))) fun r_3 σ_3 =>
  if r_3 = 0 then
    b2 (FX11_wrong (1 : Int32) (σ_3.1 7) σ_3) fun r_5 σ_5 =>
    FX11_compile_43 L r_5 σ_5
  else
    FX11_compile_43 L (0 : Int32) σ_3
def FX11_errorAt  (σ : MS) : Option (Int32 × MS) :=
  some (σ.1 3, (sI σ 0 (0 : Int32)))
abbrev LF : Nat := 5000
