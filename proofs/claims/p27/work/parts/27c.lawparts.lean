-- the law's parts
def FL_parts_487 (L : Nat) (N : Nat) (xs : Nat → Int32) (k111 : Int32 → Int32 → Int32 → LwS → Option (Int32 × LwS)) (x2 : Int32) (x7 : Int32) (x8 : Int32) (σ1 : LwS) : Option (Int32 × LwS) :=
    b2 (FL_put L 92 σ1) fun (_ : Unit) σ_39 =>
    k111 x2 x7 (x8 + (1 : Int32)) σ_39
def FL_parts_484 (L : Nat) (N : Nat) (xs : Nat → Int32) (k111 : Int32 → Int32 → Int32 → LwS → Option (Int32 × LwS)) (x2 : Int32) (x7 : Int32) (x8 : Int32) (y1 : Int32) (σ1 : LwS) : Option (Int32 × LwS) :=
    b2 (FL_put_ y1 σ1) fun (_ : Unit) σ_38 =>
    FL_parts_487 L N xs k111 x2 x7 x8 σ_38
def FL_parts_464 (L : Nat) (N : Nat) (xs : Nat → Int32) (k111 : Int32 → Int32 → Int32 → LwS → Option (Int32 × LwS)) (x2 : Int32) (x7 : Int32) (x8 : Int32) (x10 : Int32) (x11 : Int32) (x12 : Int32) (σ1 : LwS) : Option (Int32 × LwS) :=
    b2 (FL_put L 88 σ1) fun (_ : Unit) σ_36 =>
    if x10 ≤ (5 : Int32) then
      FL_parts_484 L N xs k111 x2 x7 x8 x11 σ_36
    else
      FL_parts_484 L N xs k111 x2 x7 x8 x12 σ_36
def FL_parts_420 (L : Nat) (N : Nat) (xs : Nat → Int32) (k111 : Int32 → Int32 → Int32 → LwS → Option (Int32 × LwS)) (x2 : Int32) (x7 : Int32) (x8 : Int32) (x10 : Int32) (x11 : Int32) (x12 : Int32) (x13 : Int32) (x14 : Int32) (x15 : Int32) (σ1 : LwS) : Option (Int32 × LwS) :=
    if (x10 < 0 ∨ 10 ≤ x10.toNatClampNeg) then none else
    b2 (FL_put L (76 + x10.toNatClampNeg) σ1) fun (_ : Unit) σ_34 =>
    if x15 = 0 then
      FL_parts_464 L N xs k111 x2 x7 x8 x10 x11 x12 σ_34
    else
      b2 (FL_put L 89 σ_34) fun (_ : Unit) σ_40 =>
      b2 (FL_put_ x13 σ_40) fun (_ : Unit) σ_41 =>
      b2 (FL_put L 90 σ_41) fun (_ : Unit) σ_42 =>
      b2 (FL_put_ x14 σ_42) fun (_ : Unit) σ_43 =>
      b2 (FL_put L 91 σ_43) fun (_ : Unit) σ_44 =>
      FL_parts_464 L N xs k111 x2 x7 x8 x10 x11 x12 σ_44
def FL_parts_335 (L : Nat) (N : Nat) (xs : Nat → Int32) (k111 : Int32 → Int32 → Int32 → LwS → Option (Int32 × LwS)) : Nat → Int32 → Int32 → Int32 → Int32 → Int32 → Int32 → Int32 → Int32 → Int32 → Int32 → (Nat → Int32) → LwS → Option (Int32 × LwS)
  | 0, _, _, _, _, _, _, _, _, _, _, _, _ => none
  | n+1, x2, x7, x8, x10, x11, x12, x13, x14, x15, x17, xc, σ1 =>
    if (5 : Int32) ≤ x17 then
      b2 (FL_put L 86 σ1) fun (_ : Unit) σ_28 =>
      b2 (FL_put_ x8 σ_28) fun (_ : Unit) σ_29 =>
      b2 (FL_put L 87 σ_29) fun (_ : Unit) σ_30 =>
      if x10 ≤ (9 : Int32) then
        if x10 ≤ (5 : Int32) then
          FL_parts_420 L N xs k111 x2 x7 x8 x10 x11 x12 x13 x14 x15 σ_30
        else
          b2 (FL_put L 88 σ_30) fun (_ : Unit) σ_45 =>
          b2 (FL_put_ x11 σ_45) fun (_ : Unit) σ_46 =>
          FL_parts_420 L N xs k111 x2 x7 x8 x10 x11 x12 x13 x14 x15 σ_46
      else
        if ((x10 - (10 : Int32)) < 0 ∨ 4 ≤ (x10 - (10 : Int32)).toNatClampNeg) then none else
        b2 (FL_put L (72 + (x10 - (10 : Int32)).toNatClampNeg) σ_30) fun (_ : Unit) σ_48 =>
        FL_parts_487 L N xs k111 x2 x7 x8 σ_48
    else
      if (x17 < 0 ∨ 5 ≤ x17.toNatClampNeg) then none else
      if ((((5 : Int32) * x8) + x17) < 0 ∨ 60 ≤ (((5 : Int32) * x8) + x17).toNatClampNeg) then none else
      (FL_parts_335 L N xs k111 n) x2 x7 x8 x10 x11 x12 x13 x14 x15 (x17 + (1 : Int32)) xc (rR σ1 1 (upd (σ1.2 1) (((5 : Int32) * x8) + x17).toNatClampNeg (xc x17.toNatClampNeg)))
def FL_parts_315 (L : Nat) (N : Nat) (xs : Nat → Int32) (k111 : Int32 → Int32 → Int32 → LwS → Option (Int32 × LwS)) (x2 : Int32) (x7 : Int32) (x8 : Int32) (x10 : Int32) (x11 : Int32) (x12 : Int32) (x13 : Int32) (x14 : Int32) (x15 : Int32) (y2 : Int32) (y3 : Int32) (xc : (Nat → Int32)) (σ1 : LwS) : Option (Int32 × LwS) :=
    if (y2 < 0 ∨ 5 ≤ y2.toNatClampNeg) then none else
    if x15 = 0 then
      FL_parts_335 L N xs k111 L x2 x7 x8 x10 x11 x12 x13 x14 x15 (0 : Int32) (upd (upd xc y2.toNatClampNeg y3) (4 : Int32).toNatClampNeg (-1 : Int32)) σ1
    else
      FL_parts_335 L N xs k111 L x2 x7 x8 x10 x11 x12 x13 x14 x15 (0 : Int32) (upd (upd xc y2.toNatClampNeg y3) (4 : Int32).toNatClampNeg x14) σ1
def FL_parts_282 (L : Nat) (N : Nat) (xs : Nat → Int32) (k111 : Int32 → Int32 → Int32 → LwS → Option (Int32 × LwS)) (x2 : Int32) (x7 : Int32) (x8 : Int32) (x10 : Int32) (x11 : Int32) (x12 : Int32) (x13 : Int32) (x14 : Int32) (y0 : Int32) (σ1 : LwS) : Option (Int32 × LwS) :=
    if y0 = 0 then
      FL_parts_315 L N xs k111 x2 x7 x8 x10 x11 x12 x13 x14 y0 (3 : Int32) (0 : Int32) (upd (upd (upd (fun _ => 0) (0 : Int32).toNatClampNeg x10) (1 : Int32).toNatClampNeg x11) (2 : Int32).toNatClampNeg x12) σ1
    else
      FL_parts_315 L N xs k111 x2 x7 x8 x10 x11 x12 x13 x14 y0 (3 : Int32) x13 (upd (upd (upd (fun _ => 0) (0 : Int32).toNatClampNeg x10) (1 : Int32).toNatClampNeg x11) (2 : Int32).toNatClampNeg x12) σ1
def FL_parts_281 (L : Nat) (N : Nat) (xs : Nat → Int32) (k111 : Int32 → Int32 → Int32 → LwS → Option (Int32 × LwS)) (x2 : Int32) (x7 : Int32) (x8 : Int32) (x10 : Int32) (x11 : Int32) (x12 : Int32) (x13 : Int32) (x14 : Int32) (σ1 : LwS) : Option (Int32 × LwS) :=
    FL_parts_282 L N xs k111 x2 x7 x8 x10 x11 x12 x13 x14 (0 : Int32) σ1
def FL_parts_257 (L : Nat) (N : Nat) (xs : Nat → Int32) (k111 : Int32 → Int32 → Int32 → LwS → Option (Int32 × LwS)) (x2 : Int32) (x7 : Int32) (x8 : Int32) (x10 : Int32) (x11 : Int32) (x12 : Int32) (x13 : Int32) (y0 : Int32) (σ1 : LwS) : Option (Int32 × LwS) :=
    if x10 ≤ (3 : Int32) then
      FL_parts_281 L N xs k111 x2 x7 x8 x10 x11 x12 x13 y0 σ1
    else
      if (7 : Int32) ≤ x10 then
        FL_parts_281 L N xs k111 x2 x7 x8 x10 x11 x12 x13 y0 σ1
      else
        if y0 < 0 then
          FL_parts_281 L N xs k111 x2 x7 x8 x10 x11 x12 x13 y0 σ1
        else
          FL_parts_282 L N xs k111 x2 x7 x8 x10 x11 x12 x13 y0 (1 : Int32) σ1
def FL_parts_216 (L : Nat) (N : Nat) (xs : Nat → Int32) (k111 : Int32 → Int32 → Int32 → LwS → Option (Int32 × LwS)) (x2 : Int32) (x7 : Int32) (x8 : Int32) (x9 : Int32) (x10 : Int32) (x11 : Int32) (y0 : Int32) (σ1 : LwS) : Option (Int32 × LwS) :=
    (FL_below (x9 >>> ((10 : Int32) &&& 31)) (4 : Int32)).bind fun r_14 =>
    (FL_below (x9 >>> ((13 : Int32) &&& 31)) (3 : Int32)).bind fun r_15 =>
    if r_15 = 0 then
      FL_parts_257 L N xs k111 x2 x7 x8 x10 x11 y0 r_14 (-1 : Int32) σ1
    else
      (FL_below (x9 >>> ((15 : Int32) &&& 31)) (5 : Int32)).bind fun r_17 =>
      FL_parts_257 L N xs k111 x2 x7 x8 x10 x11 y0 r_14 (r_14 + r_17) σ1
def FL_parts_194 (L : Nat) (N : Nat) (xs : Nat → Int32) (k111 : Int32 → Int32 → Int32 → LwS → Option (Int32 × LwS)) (x2 : Int32) (x7 : Int32) (x8 : Int32) (x9 : Int32) (x10 : Int32) (y0 : Int32) (σ1 : LwS) : Option (Int32 × LwS) :=
    if (2 : Int32) ≤ x8 then
      (FL_below (x9 >>> ((7 : Int32) &&& 31)) x8).bind fun r_13 =>
      FL_parts_216 L N xs k111 x2 x7 x8 x9 x10 y0 r_13 σ1
    else
      FL_parts_216 L N xs k111 x2 x7 x8 x9 x10 y0 (0 : Int32) σ1
def FL_parts_173 (L : Nat) (N : Nat) (xs : Nat → Int32) (k111 : Int32 → Int32 → Int32 → LwS → Option (Int32 × LwS)) (x2 : Int32) (x7 : Int32) (x8 : Int32) (x9 : Int32) (y0 : Int32) (σ1 : LwS) : Option (Int32 × LwS) :=
    if (2 : Int32) ≤ x8 then
      (FL_below (x9 >>> ((4 : Int32) &&& 31)) x8).bind fun r_11 =>
      FL_parts_194 L N xs k111 x2 x7 x8 x9 y0 r_11 σ1
    else
      FL_parts_194 L N xs k111 x2 x7 x8 x9 y0 (0 : Int32) σ1
def FL_parts_111 (L : Nat) (N : Nat) (xs : Nat → Int32)  : Nat → Int32 → Int32 → Int32 → LwS → Option (Int32 × LwS)
  | 0, _, _, _, _ => none
  | n+1, x2, x7, x8, σ1 =>
    if x7 ≤ x8 then
      some (x7, σ1)
    else
      (FL_cell N xs ((x2 + (1 : Int32)) + (x8 - x8 / (6 : Int32) * (6 : Int32)))).bind fun r_7 =>
      if (2 : Int32) ≤ x8 then
        (FL_below ((r_7 >>> (((x8 / (6 : Int32)) * (5 : Int32)) &&& 31)) ^^^ (x8 * (911 : Int32))) (14 : Int32)).bind fun r_9 =>
        FL_parts_173 L N xs (FL_parts_111 L N xs n) x2 x7 x8 ((r_7 >>> (((x8 / (6 : Int32)) * (5 : Int32)) &&& 31)) ^^^ (x8 * (911 : Int32))) r_9 σ1
      else
        (FL_below ((r_7 >>> (((x8 / (6 : Int32)) * (5 : Int32)) &&& 31)) ^^^ (x8 * (911 : Int32))) (4 : Int32)).bind fun r_54 =>
        FL_parts_173 L N xs (FL_parts_111 L N xs n) x2 x7 x8 ((r_7 >>> (((x8 / (6 : Int32)) * (5 : Int32)) &&& 31)) ^^^ (x8 * (911 : Int32))) ((10 : Int32) + r_54) σ1
def FL_parts (L : Nat) (N : Nat) (xs : Nat → Int32) (p2 : Int32) (p3 : Int32) (σ : LwS) : Option (Int32 × LwS) :=
  b2 (FL_put L 71 σ) fun (_ : Unit) σ_1 =>
  (FL_cell N xs p2).bind fun r_4 =>
  (FL_below r_4 (p3 - (3 : Int32))).bind fun r_5 =>
  FL_parts_111 L N xs 8 p2 ((4 : Int32) + r_5) (0 : Int32) σ_1
abbrev rmL_parts : Room := { frames := 5, cells := 10, slots := 54, locals := 107 }
set_option maxRecDepth 100000 in
set_option maxHeartbeats 8000000 in
theorem kL_parts {l : Launch} {D : va_G} {cI cJ cQ : ClassId} {ad : Nat → Nat} {ra : Nat → Nat → Nat} {ar : Nat → Nat} {adK adV tK : Nat → Nat} {b N : Nat} {xs : Nat → Int32} {L : Nat} {p2 : Int32} {p3 : Int32} {σ σ' : LwS} {r : Int32} (h : FL_parts L N xs p2 p3 σ = some (r, σ')) : gMet l yL_parts qL_parts rmL_parts 10 54 D vwCl [(cI, .int), (cJ, .long), (cQ, .array .long)] (lKS adK adV tK b N xs) [.ref (ar 0), .ref b, .int p2, .int p3, .ref (ar 1)] (LwW cI cJ cQ ad ra ar σ) (LwW cI cJ cQ ad ra ar σ') (some (.int r)) := by
  refine gMet.of (cc := cL_parts) (maxL := 18) (ret := (some .int)) (by decide) rfl (Nat.le_of_ble_eq_true rfl) ?_
  intro p e s m args below meth c S hr hlk hnm hK hKS hA hB ls hl
  have hl : lv_has ls 18 [(0, .ref (ar 0)), (1, .ref b), (2, .int p2), (3, .int p3), (4, .ref (ar 1))] := hl
  replace S : CallFix p m c cL_parts 18 s args (_ :: wsL_law) RL := S
  rw [FL_parts] at h
  have P487 : ∀ (k111 : Int32 → Int32 → Int32 → LwS → Option (Int32 × LwS)) (kb111 ks111 : Nat) (hb111 : kb111 ≤ 10 ∧ ks111 ≤ 54) (hk111 : ∀ (t0 : Nat) (u0 : ClassId) (_ : va_K D vwCl ([(cI, .int), (cJ, .long), (cQ, .array .long)] ++ [(u0, .object "java/lang/String")]) s) (t1 : Nat) (u1 : ClassId) (_ : va_K D vwCl ([(cI, .int), (cJ, .long), (cQ, .array .long)] ++ [(u1, .object "java/lang/String")]) s) (x2 : Int32) (x7 : Int32) (x8 : Int32) (σ1 : LwS) (H : Heap) (locs : List Loc) (ls : Array Slot) (cl sl : Nat), cl ≤ kb111 → sl ≤ ks111 → k111 x2 x7 x8 σ1 = some (r, σ') → gB D vwCl (va_A (LwW cI cJ cQ ad ra ar σ) s.heap.size) s.heap (LwW cI cJ cQ ad ra ar σ1) [(t0, .inl (u0, 4, .inr (.inr (.inr (.inr (lAt adK)))))), (t1, .inl (u1, 10, .inr (.inr (.inr (.inr (lWo adK))))))] H locs → lv_has ls 18 [(0, .ref (ar 0)), (1, .ref b), (2, .int x2), (4, .ref (ar 1)), (5, .ref t0), (6, .ref t1), (7, .int x7), (8, .int x8)] → W p l e rmL_parts s m args below meth c H locs cl sl (MQ below (gQ D vwCl (LwW cI cJ cQ ad ra ar σ) (LwW cI cJ cQ ad ra ar σ') (some (.int r)) s.heap.size) args s 10 54 (va_A (LwW cI cJ cQ ad ra ar σ) s.heap.size)) (F0 m 111 ls [])), ∀ (t0 : Nat) (u0 : ClassId) (_ : va_K D vwCl ([(cI, .int), (cJ, .long), (cQ, .array .long)] ++ [(u0, .object "java/lang/String")]) s) (t1 : Nat) (u1 : ClassId) (_ : va_K D vwCl ([(cI, .int), (cJ, .long), (cQ, .array .long)] ++ [(u1, .object "java/lang/String")]) s) (x2 : Int32) (x7 : Int32) (x8 : Int32) (σ1 : LwS) (H : Heap) (locs : List Loc) (ls : Array Slot) (cl sl : Nat), cl + 0 ≤ kb111 → sl + 0 ≤ ks111 → FL_parts_487 L N xs k111 x2 x7 x8 σ1 = some (r, σ') → gB D vwCl (va_A (LwW cI cJ cQ ad ra ar σ) s.heap.size) s.heap (LwW cI cJ cQ ad ra ar σ1) [(t0, .inl (u0, 4, .inr (.inr (.inr (.inr (lAt adK)))))), (t1, .inl (u1, 10, .inr (.inr (.inr (.inr (lWo adK))))))] H locs → lv_has ls 18 [(0, .ref (ar 0)), (1, .ref b), (2, .int x2), (4, .ref (ar 1)), (5, .ref t0), (6, .ref t1), (7, .int x7), (8, .int x8)] → W p l e rmL_parts s m args below meth c H locs cl sl (MQ below (gQ D vwCl (LwW cI cJ cQ ad ra ar σ) (LwW cI cJ cQ ad ra ar σ') (some (.int r)) s.heap.size) args s 10 54 (va_A (LwW cI cJ cQ ad ra ar σ) s.heap.size)) (F0 m 487 ls []) := by
    intro k111 kb111 ks111 hb111 hk111 t0 u0 hS0 t1 u1 hS1 x2 x7 x8 σ1 H locs ls cl sl g1 g2 h hB hl
    rw [FL_parts_487] at h
    refine lv_aload_n S.1 S.2.1 dL_parts_487 rfl (lv_at hl 0 rfl) ?_
    refine va_ldcS S.1 S.2.1 S.2.2.2.1 (hKS.1.1.1.1.1.2.1 (RL, 91, "; ", 92) (List.mem_of_getElem? (i := 92) rfl)) dL_parts_488 ?_
    obtain ⟨_, σ_39, e_39, h⟩ := b2s h
    refine gCallS (v := none) S hK lKSc hKS hA (kL_put (by decide) e_39) (cwL_40 S.2.2.2.2 (rm := rmL_put) rfl rfl ⟨(Nat.le_of_ble_eq_true rfl), (Nat.le_of_ble_eq_true rfl)⟩) hB rfl hl.1 rfl (lv_room (Nat.le_of_ble_eq_true rfl)) dL_parts_490 ⟨by dsimp only [rmL_parts]; omega, by dsimp only [rmL_parts]; omega⟩ (fun H locs hB => ?_)
    refine lv_iinc (v := (x8 + (1 : Int32))) (lv' := [(8, .int (x8 + (1 : Int32))), (0, .ref (ar 0)), (1, .ref b), (2, .int x2), (4, .ref (ar 1)), (5, .ref t0), (6, .ref t1), (7, .int x7)]) S.1 S.2.1 dL_parts_493 hl (k := 7) rfl rfl (by decide) rfl (fun ls hl => ?_)
    refine lv_goto (tgt := 111) S.1 S.2.1 dL_parts_496 (by decide) ?_
    exact hk111 _ _ hS0 _ _ hS1 _ _ _ _ _ _ _ _ _ (by omega) (by omega) h hB (lv_sub hl [1, 2, 3, 4, 5, 6, 7, 0] rfl)
  have P484 : ∀ (k111 : Int32 → Int32 → Int32 → LwS → Option (Int32 × LwS)) (kb111 ks111 : Nat) (hb111 : kb111 ≤ 10 ∧ ks111 ≤ 54) (hk111 : ∀ (t0 : Nat) (u0 : ClassId) (_ : va_K D vwCl ([(cI, .int), (cJ, .long), (cQ, .array .long)] ++ [(u0, .object "java/lang/String")]) s) (t1 : Nat) (u1 : ClassId) (_ : va_K D vwCl ([(cI, .int), (cJ, .long), (cQ, .array .long)] ++ [(u1, .object "java/lang/String")]) s) (x2 : Int32) (x7 : Int32) (x8 : Int32) (σ1 : LwS) (H : Heap) (locs : List Loc) (ls : Array Slot) (cl sl : Nat), cl ≤ kb111 → sl ≤ ks111 → k111 x2 x7 x8 σ1 = some (r, σ') → gB D vwCl (va_A (LwW cI cJ cQ ad ra ar σ) s.heap.size) s.heap (LwW cI cJ cQ ad ra ar σ1) [(t0, .inl (u0, 4, .inr (.inr (.inr (.inr (lAt adK)))))), (t1, .inl (u1, 10, .inr (.inr (.inr (.inr (lWo adK))))))] H locs → lv_has ls 18 [(0, .ref (ar 0)), (1, .ref b), (2, .int x2), (4, .ref (ar 1)), (5, .ref t0), (6, .ref t1), (7, .int x7), (8, .int x8)] → W p l e rmL_parts s m args below meth c H locs cl sl (MQ below (gQ D vwCl (LwW cI cJ cQ ad ra ar σ) (LwW cI cJ cQ ad ra ar σ') (some (.int r)) s.heap.size) args s 10 54 (va_A (LwW cI cJ cQ ad ra ar σ) s.heap.size)) (F0 m 111 ls [])), ∀ (t0 : Nat) (u0 : ClassId) (_ : va_K D vwCl ([(cI, .int), (cJ, .long), (cQ, .array .long)] ++ [(u0, .object "java/lang/String")]) s) (t1 : Nat) (u1 : ClassId) (_ : va_K D vwCl ([(cI, .int), (cJ, .long), (cQ, .array .long)] ++ [(u1, .object "java/lang/String")]) s) (x2 : Int32) (x7 : Int32) (x8 : Int32) (y1 : Int32) (σ1 : LwS) (H : Heap) (locs : List Loc) (ls : Array Slot) (cl sl : Nat), cl + 0 ≤ kb111 → sl + 0 ≤ ks111 → FL_parts_484 L N xs k111 x2 x7 x8 y1 σ1 = some (r, σ') → gB D vwCl (va_A (LwW cI cJ cQ ad ra ar σ) s.heap.size) s.heap (LwW cI cJ cQ ad ra ar σ1) [(t0, .inl (u0, 4, .inr (.inr (.inr (.inr (lAt adK)))))), (t1, .inl (u1, 10, .inr (.inr (.inr (.inr (lWo adK))))))] H locs → lv_has ls 18 [(0, .ref (ar 0)), (1, .ref b), (2, .int x2), (4, .ref (ar 1)), (5, .ref t0), (6, .ref t1), (7, .int x7), (8, .int x8)] → W p l e rmL_parts s m args below meth c H locs cl sl (MQ below (gQ D vwCl (LwW cI cJ cQ ad ra ar σ) (LwW cI cJ cQ ad ra ar σ') (some (.int r)) s.heap.size) args s 10 54 (va_A (LwW cI cJ cQ ad ra ar σ) s.heap.size)) (F0 m 484 ls [.int y1, .ref (ar 0)]) := by
    intro k111 kb111 ks111 hb111 hk111 t0 u0 hS0 t1 u1 hS1 x2 x7 x8 y1 σ1 H locs ls cl sl g1 g2 h hB hl
    rw [FL_parts_484] at h
    obtain ⟨_, σ_38, e_38, h⟩ := b2s h
    refine gCallS (v := none) S hK lKSc hKS hA (kL_put_ e_38) (cwL_19 S.2.2.2.2 (rm := rmL_put_) rfl rfl ⟨(Nat.le_of_ble_eq_true rfl), (Nat.le_of_ble_eq_true rfl)⟩) hB rfl hl.1 rfl (lv_room (Nat.le_of_ble_eq_true rfl)) dL_parts_484 ⟨by dsimp only [rmL_parts]; omega, by dsimp only [rmL_parts]; omega⟩ (fun H locs hB => ?_)
    exact P487 k111 _ _ hb111 hk111 _ _ hS0 _ _ hS1 _ _ _ _ _ _ _ _ _ (by omega) (by omega) h hB hl
  have P464 : ∀ (k111 : Int32 → Int32 → Int32 → LwS → Option (Int32 × LwS)) (kb111 ks111 : Nat) (hb111 : kb111 ≤ 10 ∧ ks111 ≤ 54) (hk111 : ∀ (t0 : Nat) (u0 : ClassId) (_ : va_K D vwCl ([(cI, .int), (cJ, .long), (cQ, .array .long)] ++ [(u0, .object "java/lang/String")]) s) (t1 : Nat) (u1 : ClassId) (_ : va_K D vwCl ([(cI, .int), (cJ, .long), (cQ, .array .long)] ++ [(u1, .object "java/lang/String")]) s) (x2 : Int32) (x7 : Int32) (x8 : Int32) (σ1 : LwS) (H : Heap) (locs : List Loc) (ls : Array Slot) (cl sl : Nat), cl ≤ kb111 → sl ≤ ks111 → k111 x2 x7 x8 σ1 = some (r, σ') → gB D vwCl (va_A (LwW cI cJ cQ ad ra ar σ) s.heap.size) s.heap (LwW cI cJ cQ ad ra ar σ1) [(t0, .inl (u0, 4, .inr (.inr (.inr (.inr (lAt adK)))))), (t1, .inl (u1, 10, .inr (.inr (.inr (.inr (lWo adK))))))] H locs → lv_has ls 18 [(0, .ref (ar 0)), (1, .ref b), (2, .int x2), (4, .ref (ar 1)), (5, .ref t0), (6, .ref t1), (7, .int x7), (8, .int x8)] → W p l e rmL_parts s m args below meth c H locs cl sl (MQ below (gQ D vwCl (LwW cI cJ cQ ad ra ar σ) (LwW cI cJ cQ ad ra ar σ') (some (.int r)) s.heap.size) args s 10 54 (va_A (LwW cI cJ cQ ad ra ar σ) s.heap.size)) (F0 m 111 ls [])), ∀ (t0 : Nat) (u0 : ClassId) (_ : va_K D vwCl ([(cI, .int), (cJ, .long), (cQ, .array .long)] ++ [(u0, .object "java/lang/String")]) s) (t1 : Nat) (u1 : ClassId) (_ : va_K D vwCl ([(cI, .int), (cJ, .long), (cQ, .array .long)] ++ [(u1, .object "java/lang/String")]) s) (x2 : Int32) (x7 : Int32) (x8 : Int32) (x10 : Int32) (x11 : Int32) (x12 : Int32) (σ1 : LwS) (H : Heap) (locs : List Loc) (ls : Array Slot) (cl sl : Nat), cl + 0 ≤ kb111 → sl + 0 ≤ ks111 → FL_parts_464 L N xs k111 x2 x7 x8 x10 x11 x12 σ1 = some (r, σ') → gB D vwCl (va_A (LwW cI cJ cQ ad ra ar σ) s.heap.size) s.heap (LwW cI cJ cQ ad ra ar σ1) [(t0, .inl (u0, 4, .inr (.inr (.inr (.inr (lAt adK)))))), (t1, .inl (u1, 10, .inr (.inr (.inr (.inr (lWo adK))))))] H locs → lv_has ls 18 [(0, .ref (ar 0)), (1, .ref b), (2, .int x2), (4, .ref (ar 1)), (5, .ref t0), (6, .ref t1), (7, .int x7), (8, .int x8), (10, .int x10), (11, .int x11), (12, .int x12)] → W p l e rmL_parts s m args below meth c H locs cl sl (MQ below (gQ D vwCl (LwW cI cJ cQ ad ra ar σ) (LwW cI cJ cQ ad ra ar σ') (some (.int r)) s.heap.size) args s 10 54 (va_A (LwW cI cJ cQ ad ra ar σ) s.heap.size)) (F0 m 464 ls []) := by
    intro k111 kb111 ks111 hb111 hk111 t0 u0 hS0 t1 u1 hS1 x2 x7 x8 x10 x11 x12 σ1 H locs ls cl sl g1 g2 h hB hl
    rw [FL_parts_464] at h
    refine lv_aload_n S.1 S.2.1 dL_parts_464 rfl (lv_at hl 0 rfl) ?_
    refine va_ldcS S.1 S.2.1 S.2.2.2.1 (hKS.1.1.1.1.1.2.1 (RL, 83, "is l", 88) (List.mem_of_getElem? (i := 88) rfl)) dL_parts_465 ?_
    obtain ⟨_, σ_36, e_36, h⟩ := b2s h
    refine gCallS (v := none) S hK lKSc hKS hA (kL_put (by decide) e_36) (cwL_40 S.2.2.2.2 (rm := rmL_put) rfl rfl ⟨(Nat.le_of_ble_eq_true rfl), (Nat.le_of_ble_eq_true rfl)⟩) hB rfl hl.1 rfl (lv_room (Nat.le_of_ble_eq_true rfl)) dL_parts_467 ⟨by dsimp only [rmL_parts]; omega, by dsimp only [rmL_parts]; omega⟩ (fun H locs hB => ?_)
    refine lv_aload_n S.1 S.2.1 dL_parts_470 rfl (lv_at hl 0 rfl) ?_
    refine lv_iload S.1 S.2.1 dL_parts_471 (lv_at hl 8 rfl) ?_
    refine lv_iconst (v := (5 : Int32)) S.1 S.2.1 dL_parts_473 (by decide) ?_
    refine lv_icmp_le (tgt := 482) S.1 S.2.1 dL_parts_474 (by decide) (fun c_37 => ?_) (fun c_37 => ?_)
    · replace h := (if_pos c_37).symm.trans h
      refine lv_iload S.1 S.2.1 dL_parts_482 (lv_at hl 9 rfl) ?_
      exact P484 k111 _ _ hb111 hk111 _ _ hS0 _ _ hS1 _ _ _ _ _ _ _ _ _ _ (by omega) (by omega) h hB (lv_sub hl [0, 1, 2, 3, 4, 5, 6, 7] rfl)
    · replace h := (if_neg c_37).symm.trans h
      refine lv_iload S.1 S.2.1 dL_parts_477 (lv_at hl 10 rfl) ?_
      refine lv_goto (tgt := 484) S.1 S.2.1 dL_parts_479 (by decide) ?_
      exact P484 k111 _ _ hb111 hk111 _ _ hS0 _ _ hS1 _ _ _ _ _ _ _ _ _ _ (by omega) (by omega) h hB (lv_sub hl [0, 1, 2, 3, 4, 5, 6, 7] rfl)
  have P420 : ∀ (k111 : Int32 → Int32 → Int32 → LwS → Option (Int32 × LwS)) (kb111 ks111 : Nat) (hb111 : kb111 ≤ 10 ∧ ks111 ≤ 54) (hk111 : ∀ (t0 : Nat) (u0 : ClassId) (_ : va_K D vwCl ([(cI, .int), (cJ, .long), (cQ, .array .long)] ++ [(u0, .object "java/lang/String")]) s) (t1 : Nat) (u1 : ClassId) (_ : va_K D vwCl ([(cI, .int), (cJ, .long), (cQ, .array .long)] ++ [(u1, .object "java/lang/String")]) s) (x2 : Int32) (x7 : Int32) (x8 : Int32) (σ1 : LwS) (H : Heap) (locs : List Loc) (ls : Array Slot) (cl sl : Nat), cl ≤ kb111 → sl ≤ ks111 → k111 x2 x7 x8 σ1 = some (r, σ') → gB D vwCl (va_A (LwW cI cJ cQ ad ra ar σ) s.heap.size) s.heap (LwW cI cJ cQ ad ra ar σ1) [(t0, .inl (u0, 4, .inr (.inr (.inr (.inr (lAt adK)))))), (t1, .inl (u1, 10, .inr (.inr (.inr (.inr (lWo adK))))))] H locs → lv_has ls 18 [(0, .ref (ar 0)), (1, .ref b), (2, .int x2), (4, .ref (ar 1)), (5, .ref t0), (6, .ref t1), (7, .int x7), (8, .int x8)] → W p l e rmL_parts s m args below meth c H locs cl sl (MQ below (gQ D vwCl (LwW cI cJ cQ ad ra ar σ) (LwW cI cJ cQ ad ra ar σ') (some (.int r)) s.heap.size) args s 10 54 (va_A (LwW cI cJ cQ ad ra ar σ) s.heap.size)) (F0 m 111 ls [])), ∀ (t0 : Nat) (u0 : ClassId) (_ : va_K D vwCl ([(cI, .int), (cJ, .long), (cQ, .array .long)] ++ [(u0, .object "java/lang/String")]) s) (t1 : Nat) (u1 : ClassId) (_ : va_K D vwCl ([(cI, .int), (cJ, .long), (cQ, .array .long)] ++ [(u1, .object "java/lang/String")]) s) (x2 : Int32) (x7 : Int32) (x8 : Int32) (x10 : Int32) (x11 : Int32) (x12 : Int32) (x13 : Int32) (x14 : Int32) (x15 : Int32) (σ1 : LwS) (H : Heap) (locs : List Loc) (ls : Array Slot) (cl sl : Nat), cl + 0 ≤ kb111 → sl + 0 ≤ ks111 → FL_parts_420 L N xs k111 x2 x7 x8 x10 x11 x12 x13 x14 x15 σ1 = some (r, σ') → gB D vwCl (va_A (LwW cI cJ cQ ad ra ar σ) s.heap.size) s.heap (LwW cI cJ cQ ad ra ar σ1) [(t0, .inl (u0, 4, .inr (.inr (.inr (.inr (lAt adK)))))), (t1, .inl (u1, 10, .inr (.inr (.inr (.inr (lWo adK))))))] H locs → lv_has ls 18 [(0, .ref (ar 0)), (1, .ref b), (2, .int x2), (4, .ref (ar 1)), (5, .ref t0), (6, .ref t1), (7, .int x7), (8, .int x8), (10, .int x10), (11, .int x11), (12, .int x12), (13, .int x13), (14, .int x14), (15, .int x15)] → W p l e rmL_parts s m args below meth c H locs cl sl (MQ below (gQ D vwCl (LwW cI cJ cQ ad ra ar σ) (LwW cI cJ cQ ad ra ar σ') (some (.int r)) s.heap.size) args s 10 54 (va_A (LwW cI cJ cQ ad ra ar σ) s.heap.size)) (F0 m 420 ls []) := by
    intro k111 kb111 ks111 hb111 hk111 t0 u0 hS0 t1 u1 hS1 x2 x7 x8 x10 x11 x12 x13 x14 x15 σ1 H locs ls cl sl g1 g2 h hB hl
    rw [FL_parts_420] at h
    refine lv_aload_n S.1 S.2.1 dL_parts_420 rfl (lv_at hl 0 rfl) ?_
    refine lv_aload S.1 S.2.1 dL_parts_421 (lv_at hl 5 rfl) ?_
    refine lv_iload S.1 S.2.1 dL_parts_423 (lv_at hl 8 rfl) ?_
    obtain ⟨b_33, h⟩ := gd h
    have l_33 : x10.toNatClampNeg < 10 := Nat.not_le.mp (fun z => b_33 (Or.inr z))
    have w_33 : wS (76 + x10.toNatClampNeg) := Or.inr ⟨by omega, by omega⟩
    refine lXalds (t0 := 3) S hS1 hB 1 rfl rfl b_33 (lWo_get l_33) dL_parts_425 ?_
    obtain ⟨_, σ_34, e_34, h⟩ := b2s h
    refine gCallS (v := none) S hK lKSc hKS hA (kL_put w_33 e_34) (cwL_40 S.2.2.2.2 (rm := rmL_put) rfl rfl ⟨(Nat.le_of_ble_eq_true rfl), (Nat.le_of_ble_eq_true rfl)⟩) hB rfl hl.1 rfl (lv_room (Nat.le_of_ble_eq_true rfl)) dL_parts_426 ⟨by dsimp only [rmL_parts]; omega, by dsimp only [rmL_parts]; omega⟩ (fun H locs hB => ?_)
    refine lv_iload S.1 S.2.1 dL_parts_429 (lv_at hl 13 rfl) ?_
    refine lv_if_eq (tgt := 464) S.1 S.2.1 dL_parts_431 (by decide) (fun c_35 => ?_) (fun c_35 => ?_)
    · replace h := (if_pos c_35).symm.trans h
      exact P464 k111 _ _ hb111 hk111 _ _ hS0 _ _ hS1 _ _ _ _ _ _ _ _ _ _ _ _ (by omega) (by omega) h hB (lv_sub hl [0, 1, 2, 3, 4, 5, 6, 7, 8, 9, 10] rfl)
    · replace h := (if_neg c_35).symm.trans h
      refine lv_aload_n S.1 S.2.1 dL_parts_434 rfl (lv_at hl 0 rfl) ?_
      refine va_ldcS S.1 S.2.1 S.2.2.2.1 (hKS.1.1.1.1.1.2.1 (RL, 85, "[", 89) (List.mem_of_getElem? (i := 89) rfl)) dL_parts_435 ?_
      obtain ⟨_, σ_40, e_40, h⟩ := b2s h
      refine gCallS (v := none) S hK lKSc hKS hA (kL_put (by decide) e_40) (cwL_40 S.2.2.2.2 (rm := rmL_put) rfl rfl ⟨(Nat.le_of_ble_eq_true rfl), (Nat.le_of_ble_eq_true rfl)⟩) hB rfl hl.1 rfl (lv_room (Nat.le_of_ble_eq_true rfl)) dL_parts_437 ⟨by dsimp only [rmL_parts]; omega, by dsimp only [rmL_parts]; omega⟩ (fun H locs hB => ?_)
      refine lv_aload_n S.1 S.2.1 dL_parts_440 rfl (lv_at hl 0 rfl) ?_
      refine lv_iload S.1 S.2.1 dL_parts_441 (lv_at hl 11 rfl) ?_
      obtain ⟨_, σ_41, e_41, h⟩ := b2s h
      refine gCallS (v := none) S hK lKSc hKS hA (kL_put_ e_41) (cwL_19 S.2.2.2.2 (rm := rmL_put_) rfl rfl ⟨(Nat.le_of_ble_eq_true rfl), (Nat.le_of_ble_eq_true rfl)⟩) hB rfl hl.1 rfl (lv_room (Nat.le_of_ble_eq_true rfl)) dL_parts_443 ⟨by dsimp only [rmL_parts]; omega, by dsimp only [rmL_parts]; omega⟩ (fun H locs hB => ?_)
      refine lv_aload_n S.1 S.2.1 dL_parts_446 rfl (lv_at hl 0 rfl) ?_
      refine va_ldcS S.1 S.2.1 S.2.2.2.1 (hKS.1.1.1.1.1.2.1 (RL, 87, " .. ", 90) (List.mem_of_getElem? (i := 90) rfl)) dL_parts_447 ?_
      obtain ⟨_, σ_42, e_42, h⟩ := b2s h
      refine gCallS (v := none) S hK lKSc hKS hA (kL_put (by decide) e_42) (cwL_40 S.2.2.2.2 (rm := rmL_put) rfl rfl ⟨(Nat.le_of_ble_eq_true rfl), (Nat.le_of_ble_eq_true rfl)⟩) hB rfl hl.1 rfl (lv_room (Nat.le_of_ble_eq_true rfl)) dL_parts_449 ⟨by dsimp only [rmL_parts]; omega, by dsimp only [rmL_parts]; omega⟩ (fun H locs hB => ?_)
      refine lv_aload_n S.1 S.2.1 dL_parts_452 rfl (lv_at hl 0 rfl) ?_
      refine lv_iload S.1 S.2.1 dL_parts_453 (lv_at hl 12 rfl) ?_
      obtain ⟨_, σ_43, e_43, h⟩ := b2s h
      refine gCallS (v := none) S hK lKSc hKS hA (kL_put_ e_43) (cwL_19 S.2.2.2.2 (rm := rmL_put_) rfl rfl ⟨(Nat.le_of_ble_eq_true rfl), (Nat.le_of_ble_eq_true rfl)⟩) hB rfl hl.1 rfl (lv_room (Nat.le_of_ble_eq_true rfl)) dL_parts_455 ⟨by dsimp only [rmL_parts]; omega, by dsimp only [rmL_parts]; omega⟩ (fun H locs hB => ?_)
      refine lv_aload_n S.1 S.2.1 dL_parts_458 rfl (lv_at hl 0 rfl) ?_
      refine va_ldcS S.1 S.2.1 S.2.2.2.1 (hKS.1.1.1.1.1.2.1 (RL, 89, "] ", 91) (List.mem_of_getElem? (i := 91) rfl)) dL_parts_459 ?_
      obtain ⟨_, σ_44, e_44, h⟩ := b2s h
      refine gCallS (v := none) S hK lKSc hKS hA (kL_put (by decide) e_44) (cwL_40 S.2.2.2.2 (rm := rmL_put) rfl rfl ⟨(Nat.le_of_ble_eq_true rfl), (Nat.le_of_ble_eq_true rfl)⟩) hB rfl hl.1 rfl (lv_room (Nat.le_of_ble_eq_true rfl)) dL_parts_461 ⟨by dsimp only [rmL_parts]; omega, by dsimp only [rmL_parts]; omega⟩ (fun H locs hB => ?_)
      exact P464 k111 _ _ hb111 hk111 _ _ hS0 _ _ hS1 _ _ _ _ _ _ _ _ _ _ _ _ (by omega) (by omega) h hB (lv_sub hl [0, 1, 2, 3, 4, 5, 6, 7, 8, 9, 10] rfl)
  have P335 : ∀ (k111 : Int32 → Int32 → Int32 → LwS → Option (Int32 × LwS)) (kb111 ks111 : Nat) (hb111 : kb111 ≤ 10 ∧ ks111 ≤ 54) (hk111 : ∀ (t0 : Nat) (u0 : ClassId) (_ : va_K D vwCl ([(cI, .int), (cJ, .long), (cQ, .array .long)] ++ [(u0, .object "java/lang/String")]) s) (t1 : Nat) (u1 : ClassId) (_ : va_K D vwCl ([(cI, .int), (cJ, .long), (cQ, .array .long)] ++ [(u1, .object "java/lang/String")]) s) (x2 : Int32) (x7 : Int32) (x8 : Int32) (σ1 : LwS) (H : Heap) (locs : List Loc) (ls : Array Slot) (cl sl : Nat), cl ≤ kb111 → sl ≤ ks111 → k111 x2 x7 x8 σ1 = some (r, σ') → gB D vwCl (va_A (LwW cI cJ cQ ad ra ar σ) s.heap.size) s.heap (LwW cI cJ cQ ad ra ar σ1) [(t0, .inl (u0, 4, .inr (.inr (.inr (.inr (lAt adK)))))), (t1, .inl (u1, 10, .inr (.inr (.inr (.inr (lWo adK))))))] H locs → lv_has ls 18 [(0, .ref (ar 0)), (1, .ref b), (2, .int x2), (4, .ref (ar 1)), (5, .ref t0), (6, .ref t1), (7, .int x7), (8, .int x8)] → W p l e rmL_parts s m args below meth c H locs cl sl (MQ below (gQ D vwCl (LwW cI cJ cQ ad ra ar σ) (LwW cI cJ cQ ad ra ar σ') (some (.int r)) s.heap.size) args s 10 54 (va_A (LwW cI cJ cQ ad ra ar σ) s.heap.size)) (F0 m 111 ls [])) (n : Nat), ∀ (t0 : Nat) (u0 : ClassId) (_ : va_K D vwCl ([(cI, .int), (cJ, .long), (cQ, .array .long)] ++ [(u0, .object "java/lang/String")]) s) (t1 : Nat) (u1 : ClassId) (_ : va_K D vwCl ([(cI, .int), (cJ, .long), (cQ, .array .long)] ++ [(u1, .object "java/lang/String")]) s) (t2 : Nat) (x2 : Int32) (x7 : Int32) (x8 : Int32) (x10 : Int32) (x11 : Int32) (x12 : Int32) (x13 : Int32) (x14 : Int32) (x15 : Int32) (x17 : Int32) (xc : (Nat → Int32)) (σ1 : LwS) (H : Heap) (locs : List Loc) (ls : Array Slot) (cl sl : Nat), cl + 0 ≤ kb111 → sl + 0 ≤ ks111 → FL_parts_335 L N xs k111 n x2 x7 x8 x10 x11 x12 x13 x14 x15 x17 xc σ1 = some (r, σ') → gB D vwCl (va_A (LwW cI cJ cQ ad ra ar σ) s.heap.size) s.heap (LwW cI cJ cQ ad ra ar σ1) [(t0, .inl (u0, 4, .inr (.inr (.inr (.inr (lAt adK)))))), (t1, .inl (u1, 10, .inr (.inr (.inr (.inr (lWo adK)))))), (t2, .inl (cI, 5, .inl xc))] H locs → lv_has ls 18 [(0, .ref (ar 0)), (1, .ref b), (2, .int x2), (4, .ref (ar 1)), (5, .ref t0), (6, .ref t1), (7, .int x7), (8, .int x8), (10, .int x10), (11, .int x11), (12, .int x12), (13, .int x13), (14, .int x14), (15, .int x15), (16, .ref t2), (17, .int x17)] → W p l e rmL_parts s m args below meth c H locs cl sl (MQ below (gQ D vwCl (LwW cI cJ cQ ad ra ar σ) (LwW cI cJ cQ ad ra ar σ') (some (.int r)) s.heap.size) args s 10 54 (va_A (LwW cI cJ cQ ad ra ar σ) s.heap.size)) (F0 m 335 ls []) := by
    intro k111 kb111 ks111 hb111 hk111
    intro n
    induction n with
    | zero => intro t0 u0 hS0 t1 u1 hS1 t2 x2 x7 x8 x10 x11 x12 x13 x14 x15 x17 xc σ1 H locs ls cl sl g1 g2 h; simp only [FL_parts_335] at h; cases h
    | succ n ih =>
      intro t0 u0 hS0 t1 u1 hS1 t2 x2 x7 x8 x10 x11 x12 x13 x14 x15 x17 xc σ1 H locs ls cl sl g1 g2 h hB hl
      rw [FL_parts_335] at h
      obtain ⟨kb335, hkb335⟩ : ∃ z, z = (kb111 - 0) := ⟨_, rfl⟩
      obtain ⟨ks335, hks335⟩ : ∃ z, z = (ks111 - 0) := ⟨_, rfl⟩
      have hb335 : kb335 ≤ 10 ∧ ks335 ≤ 54 := ⟨by omega, by omega⟩
      have ihc : ∀ (t0 : Nat) (u0 : ClassId) (_ : va_K D vwCl ([(cI, .int), (cJ, .long), (cQ, .array .long)] ++ [(u0, .object "java/lang/String")]) s) (t1 : Nat) (u1 : ClassId) (_ : va_K D vwCl ([(cI, .int), (cJ, .long), (cQ, .array .long)] ++ [(u1, .object "java/lang/String")]) s) (t2 : Nat) (x2 : Int32) (x7 : Int32) (x8 : Int32) (x10 : Int32) (x11 : Int32) (x12 : Int32) (x13 : Int32) (x14 : Int32) (x15 : Int32) (x17 : Int32) (xc : (Nat → Int32)) (σ1 : LwS) (H : Heap) (locs : List Loc) (ls : Array Slot) (cl sl : Nat), cl ≤ kb335 → sl ≤ ks335 → (FL_parts_335 L N xs k111 n) x2 x7 x8 x10 x11 x12 x13 x14 x15 x17 xc σ1 = some (r, σ') → gB D vwCl (va_A (LwW cI cJ cQ ad ra ar σ) s.heap.size) s.heap (LwW cI cJ cQ ad ra ar σ1) [(t0, .inl (u0, 4, .inr (.inr (.inr (.inr (lAt adK)))))), (t1, .inl (u1, 10, .inr (.inr (.inr (.inr (lWo adK)))))), (t2, .inl (cI, 5, .inl xc))] H locs → lv_has ls 18 [(0, .ref (ar 0)), (1, .ref b), (2, .int x2), (4, .ref (ar 1)), (5, .ref t0), (6, .ref t1), (7, .int x7), (8, .int x8), (10, .int x10), (11, .int x11), (12, .int x12), (13, .int x13), (14, .int x14), (15, .int x15), (16, .ref t2), (17, .int x17)] → W p l e rmL_parts s m args below meth c H locs cl sl (MQ below (gQ D vwCl (LwW cI cJ cQ ad ra ar σ) (LwW cI cJ cQ ad ra ar σ') (some (.int r)) s.heap.size) args s 10 54 (va_A (LwW cI cJ cQ ad ra ar σ) s.heap.size)) (F0 m 335 ls []) := fun t0 u0 hS0 t1 u1 hS1 t2 x2 x7 x8 x10 x11 x12 x13 x14 x15 x17 xc σ1 H locs ls cl sl q1 q2 h hB hl => ih t0 u0 hS0 t1 u1 hS1 t2 x2 x7 x8 x10 x11 x12 x13 x14 x15 x17 xc σ1 H locs ls cl sl (by omega) (by omega) h hB hl
      refine lv_iload S.1 S.2.1 dL_parts_335 (lv_at hl 15 rfl) ?_
      refine lv_iconst (v := (5 : Int32)) S.1 S.2.1 dL_parts_337 (by decide) ?_
      refine lv_icmp_ge (tgt := 362) S.1 S.2.1 dL_parts_338 (by decide) (fun c_27 => ?_) (fun c_27 => ?_)
      · replace h := (if_pos c_27).symm.trans h
        refine lv_aload_n S.1 S.2.1 dL_parts_362 rfl (lv_at hl 0 rfl) ?_
        refine va_ldcS S.1 S.2.1 S.2.2.2.1 (hKS.1.1.1.1.1.2.1 (RL, 79, "let l", 86) (List.mem_of_getElem? (i := 86) rfl)) dL_parts_363 ?_
        obtain ⟨_, σ_28, e_28, h⟩ := b2s h
        refine gCallS (v := none) S hK lKSc hKS hA (kL_put (by decide) e_28) (cwL_40 S.2.2.2.2 (rm := rmL_put) rfl rfl ⟨(Nat.le_of_ble_eq_true rfl), (Nat.le_of_ble_eq_true rfl)⟩) hB rfl hl.1 rfl (lv_room (Nat.le_of_ble_eq_true rfl)) dL_parts_365 ⟨by dsimp only [rmL_parts]; omega, by dsimp only [rmL_parts]; omega⟩ (fun H locs hB => ?_)
        refine lv_aload_n S.1 S.2.1 dL_parts_368 rfl (lv_at hl 0 rfl) ?_
        refine lv_iload S.1 S.2.1 dL_parts_369 (lv_at hl 7 rfl) ?_
        obtain ⟨_, σ_29, e_29, h⟩ := b2s h
        refine gCallS (v := none) S hK lKSc hKS hA (kL_put_ e_29) (cwL_19 S.2.2.2.2 (rm := rmL_put_) rfl rfl ⟨(Nat.le_of_ble_eq_true rfl), (Nat.le_of_ble_eq_true rfl)⟩) hB rfl hl.1 rfl (lv_room (Nat.le_of_ble_eq_true rfl)) dL_parts_371 ⟨by dsimp only [rmL_parts]; omega, by dsimp only [rmL_parts]; omega⟩ (fun H locs hB => ?_)
        refine lv_aload_n S.1 S.2.1 dL_parts_374 rfl (lv_at hl 0 rfl) ?_
        refine va_ldcS S.1 S.2.1 S.2.2.2.1 (hKS.1.1.1.1.1.2.1 (RL, 81, " := ", 87) (List.mem_of_getElem? (i := 87) rfl)) dL_parts_375 ?_
        obtain ⟨_, σ_30, e_30, h⟩ := b2s h
        refine gCallS (v := none) S hK lKSc hKS hA (kL_put (by decide) e_30) (cwL_40 S.2.2.2.2 (rm := rmL_put) rfl rfl ⟨(Nat.le_of_ble_eq_true rfl), (Nat.le_of_ble_eq_true rfl)⟩) hB rfl hl.1 rfl (lv_room (Nat.le_of_ble_eq_true rfl)) dL_parts_377 ⟨by dsimp only [rmL_parts]; omega, by dsimp only [rmL_parts]; omega⟩ (fun H locs hB => ?_)
        refine lv_iload S.1 S.2.1 dL_parts_380 (lv_at hl 8 rfl) ?_
        refine lv_bipush (v := (9 : Int32)) S.1 S.2.1 dL_parts_382 (by decide) ?_
        refine lv_icmp_le (tgt := 402) S.1 S.2.1 dL_parts_384 (by decide) (fun c_31 => ?_) (fun c_31 => ?_)
        · replace h := (if_pos c_31).symm.trans h
          refine lv_iload S.1 S.2.1 dL_parts_402 (lv_at hl 8 rfl) ?_
          refine lv_iconst (v := (5 : Int32)) S.1 S.2.1 dL_parts_404 (by decide) ?_
          refine lv_icmp_le (tgt := 420) S.1 S.2.1 dL_parts_405 (by decide) (fun c_32 => ?_) (fun c_32 => ?_)
          · replace h := (if_pos c_32).symm.trans h
            replace hB : gB D vwCl _ _ (LwW cI cJ cQ ad ra ar σ_30) [(t0, .inl (u0, 4, .inr (.inr (.inr (.inr (lAt adK)))))), (t1, .inl (u1, 10, .inr (.inr (.inr (.inr (lWo adK))))))] _ _ := lXdrop (X0 := [(t0, .inl (u0, 4, .inr (.inr (.inr (.inr (lAt adK)))))), (t1, .inl (u1, 10, .inr (.inr (.inr (.inr (lWo adK))))))]) hB
            exact P420 k111 _ _ hb111 hk111 _ _ hS0 _ _ hS1 _ _ _ _ _ _ _ _ _ _ _ _ _ _ _ (by omega) (by omega) h hB (lv_sub hl [0, 1, 2, 3, 4, 5, 6, 7, 8, 9, 10, 11, 12, 13] rfl)
          · replace h := (if_neg c_32).symm.trans h
            refine lv_aload_n S.1 S.2.1 dL_parts_408 rfl (lv_at hl 0 rfl) ?_
            refine va_ldcS S.1 S.2.1 S.2.2.2.1 (hKS.1.1.1.1.1.2.1 (RL, 83, "is l", 88) (List.mem_of_getElem? (i := 88) rfl)) dL_parts_409 ?_
            obtain ⟨_, σ_45, e_45, h⟩ := b2s h
            refine gCallS (v := none) S hK lKSc hKS hA (kL_put (by decide) e_45) (cwL_40 S.2.2.2.2 (rm := rmL_put) rfl rfl ⟨(Nat.le_of_ble_eq_true rfl), (Nat.le_of_ble_eq_true rfl)⟩) hB rfl hl.1 rfl (lv_room (Nat.le_of_ble_eq_true rfl)) dL_parts_411 ⟨by dsimp only [rmL_parts]; omega, by dsimp only [rmL_parts]; omega⟩ (fun H locs hB => ?_)
            refine lv_aload_n S.1 S.2.1 dL_parts_414 rfl (lv_at hl 0 rfl) ?_
            refine lv_iload S.1 S.2.1 dL_parts_415 (lv_at hl 9 rfl) ?_
            obtain ⟨_, σ_46, e_46, h⟩ := b2s h
            refine gCallS (v := none) S hK lKSc hKS hA (kL_put_ e_46) (cwL_19 S.2.2.2.2 (rm := rmL_put_) rfl rfl ⟨(Nat.le_of_ble_eq_true rfl), (Nat.le_of_ble_eq_true rfl)⟩) hB rfl hl.1 rfl (lv_room (Nat.le_of_ble_eq_true rfl)) dL_parts_417 ⟨by dsimp only [rmL_parts]; omega, by dsimp only [rmL_parts]; omega⟩ (fun H locs hB => ?_)
            replace hB : gB D vwCl _ _ (LwW cI cJ cQ ad ra ar σ_46) [(t0, .inl (u0, 4, .inr (.inr (.inr (.inr (lAt adK)))))), (t1, .inl (u1, 10, .inr (.inr (.inr (.inr (lWo adK))))))] _ _ := lXdrop (X0 := [(t0, .inl (u0, 4, .inr (.inr (.inr (.inr (lAt adK)))))), (t1, .inl (u1, 10, .inr (.inr (.inr (.inr (lWo adK))))))]) hB
            exact P420 k111 _ _ hb111 hk111 _ _ hS0 _ _ hS1 _ _ _ _ _ _ _ _ _ _ _ _ _ _ _ (by omega) (by omega) h hB (lv_sub hl [0, 1, 2, 3, 4, 5, 6, 7, 8, 9, 10, 11, 12, 13] rfl)
        · replace h := (if_neg c_31).symm.trans h
          refine lv_aload_n S.1 S.2.1 dL_parts_387 rfl (lv_at hl 0 rfl) ?_
          refine lv_aload S.1 S.2.1 dL_parts_388 (lv_at hl 4 rfl) ?_
          refine lv_iload S.1 S.2.1 dL_parts_390 (lv_at hl 8 rfl) ?_
          refine lv_bipush (v := (10 : Int32)) S.1 S.2.1 dL_parts_392 (by decide) ?_
          refine lv_isub S.1 S.2.1 dL_parts_394 ?_
          obtain ⟨b_47, h⟩ := gd h
          have l_47 : (x10 - (10 : Int32)).toNatClampNeg < 4 := Nat.not_le.mp (fun z => b_47 (Or.inr z))
          have w_47 : wS (72 + (x10 - (10 : Int32)).toNatClampNeg) := Or.inr ⟨by omega, by omega⟩
          refine lXalds (t0 := 3) S hS0 hB 0 rfl rfl b_47 (lAt_get l_47) dL_parts_395 ?_
          obtain ⟨_, σ_48, e_48, h⟩ := b2s h
          refine gCallS (v := none) S hK lKSc hKS hA (kL_put w_47 e_48) (cwL_40 S.2.2.2.2 (rm := rmL_put) rfl rfl ⟨(Nat.le_of_ble_eq_true rfl), (Nat.le_of_ble_eq_true rfl)⟩) hB rfl hl.1 rfl (lv_room (Nat.le_of_ble_eq_true rfl)) dL_parts_396 ⟨by dsimp only [rmL_parts]; omega, by dsimp only [rmL_parts]; omega⟩ (fun H locs hB => ?_)
          refine lv_goto (tgt := 487) S.1 S.2.1 dL_parts_399 (by decide) ?_
          replace hB : gB D vwCl _ _ (LwW cI cJ cQ ad ra ar σ_48) [(t0, .inl (u0, 4, .inr (.inr (.inr (.inr (lAt adK)))))), (t1, .inl (u1, 10, .inr (.inr (.inr (.inr (lWo adK))))))] _ _ := lXdrop (X0 := [(t0, .inl (u0, 4, .inr (.inr (.inr (.inr (lAt adK)))))), (t1, .inl (u1, 10, .inr (.inr (.inr (.inr (lWo adK))))))]) hB
          exact P487 k111 _ _ hb111 hk111 _ _ hS0 _ _ hS1 _ _ _ _ _ _ _ _ _ (by omega) (by omega) h hB (lv_sub hl [0, 1, 2, 3, 4, 5, 6, 7] rfl)
      · replace h := (if_neg c_27).symm.trans h
        refine lv_aload S.1 S.2.1 dL_parts_341 (lv_at hl 3 rfl) ?_
        refine lv_iconst (v := (5 : Int32)) S.1 S.2.1 dL_parts_343 (by decide) ?_
        refine lv_iload S.1 S.2.1 dL_parts_344 (lv_at hl 7 rfl) ?_
        refine lv_imul S.1 S.2.1 dL_parts_346 ?_
        refine lv_iload S.1 S.2.1 dL_parts_347 (lv_at hl 15 rfl) ?_
        refine lv_iadd S.1 S.2.1 dL_parts_349 ?_
        refine lv_aload S.1 S.2.1 dL_parts_350 (lv_at hl 14 rfl) ?_
        refine lv_iload S.1 S.2.1 dL_parts_352 (lv_at hl 15 rfl) ?_
        obtain ⟨b_49, h⟩ := gd h
        refine lXald (t0 := 0) S hK hB 2 rfl rfl b_49 dL_parts_354 ?_
        obtain ⟨b_50, h⟩ := gd h
        refine gIast (w' := (LwW cI cJ cQ ad ra ar (rR σ1 1 (upd (σ1.2 1) (((5 : Int32) * x8) + x17).toNatClampNeg (xc x17.toNatClampNeg))))) (f := σ1.2 1) S hK hB 1 0 rfl rfl b_50 rfl dL_parts_355 (fun H locs hB => ?_)
        refine lv_iinc (v := (x17 + (1 : Int32))) (lv' := [(17, .int (x17 + (1 : Int32))), (0, .ref (ar 0)), (1, .ref b), (2, .int x2), (4, .ref (ar 1)), (5, .ref t0), (6, .ref t1), (7, .int x7), (8, .int x8), (10, .int x10), (11, .int x11), (12, .int x12), (13, .int x13), (14, .int x14), (15, .int x15), (16, .ref t2)]) S.1 S.2.1 dL_parts_356 hl (k := 15) rfl rfl (by decide) rfl (fun ls hl => ?_)
        refine lv_goto (tgt := 335) S.1 S.2.1 dL_parts_359 (by decide) ?_
        exact ihc _ _ hS0 _ _ hS1 _ _ _ _ _ _ _ _ _ _ _ _ _ _ _ _ _ _ (by omega) (by omega) h hB (lv_sub hl [1, 2, 3, 4, 5, 6, 7, 8, 9, 10, 11, 12, 13, 14, 15, 0] rfl)
  have P315 : ∀ (k111 : Int32 → Int32 → Int32 → LwS → Option (Int32 × LwS)) (kb111 ks111 : Nat) (hb111 : kb111 ≤ 10 ∧ ks111 ≤ 54) (hk111 : ∀ (t0 : Nat) (u0 : ClassId) (_ : va_K D vwCl ([(cI, .int), (cJ, .long), (cQ, .array .long)] ++ [(u0, .object "java/lang/String")]) s) (t1 : Nat) (u1 : ClassId) (_ : va_K D vwCl ([(cI, .int), (cJ, .long), (cQ, .array .long)] ++ [(u1, .object "java/lang/String")]) s) (x2 : Int32) (x7 : Int32) (x8 : Int32) (σ1 : LwS) (H : Heap) (locs : List Loc) (ls : Array Slot) (cl sl : Nat), cl ≤ kb111 → sl ≤ ks111 → k111 x2 x7 x8 σ1 = some (r, σ') → gB D vwCl (va_A (LwW cI cJ cQ ad ra ar σ) s.heap.size) s.heap (LwW cI cJ cQ ad ra ar σ1) [(t0, .inl (u0, 4, .inr (.inr (.inr (.inr (lAt adK)))))), (t1, .inl (u1, 10, .inr (.inr (.inr (.inr (lWo adK))))))] H locs → lv_has ls 18 [(0, .ref (ar 0)), (1, .ref b), (2, .int x2), (4, .ref (ar 1)), (5, .ref t0), (6, .ref t1), (7, .int x7), (8, .int x8)] → W p l e rmL_parts s m args below meth c H locs cl sl (MQ below (gQ D vwCl (LwW cI cJ cQ ad ra ar σ) (LwW cI cJ cQ ad ra ar σ') (some (.int r)) s.heap.size) args s 10 54 (va_A (LwW cI cJ cQ ad ra ar σ) s.heap.size)) (F0 m 111 ls [])), ∀ (t0 : Nat) (u0 : ClassId) (_ : va_K D vwCl ([(cI, .int), (cJ, .long), (cQ, .array .long)] ++ [(u0, .object "java/lang/String")]) s) (t1 : Nat) (u1 : ClassId) (_ : va_K D vwCl ([(cI, .int), (cJ, .long), (cQ, .array .long)] ++ [(u1, .object "java/lang/String")]) s) (t2 : Nat) (x2 : Int32) (x7 : Int32) (x8 : Int32) (x10 : Int32) (x11 : Int32) (x12 : Int32) (x13 : Int32) (x14 : Int32) (x15 : Int32) (y2 : Int32) (y3 : Int32) (xc : (Nat → Int32)) (σ1 : LwS) (H : Heap) (locs : List Loc) (ls : Array Slot) (cl sl : Nat), cl + 0 ≤ kb111 → sl + 0 ≤ ks111 → FL_parts_315 L N xs k111 x2 x7 x8 x10 x11 x12 x13 x14 x15 y2 y3 xc σ1 = some (r, σ') → gB D vwCl (va_A (LwW cI cJ cQ ad ra ar σ) s.heap.size) s.heap (LwW cI cJ cQ ad ra ar σ1) [(t0, .inl (u0, 4, .inr (.inr (.inr (.inr (lAt adK)))))), (t1, .inl (u1, 10, .inr (.inr (.inr (.inr (lWo adK)))))), (t2, .inl (cI, 5, .inl xc))] H locs → lv_has ls 18 [(0, .ref (ar 0)), (1, .ref b), (2, .int x2), (4, .ref (ar 1)), (5, .ref t0), (6, .ref t1), (7, .int x7), (8, .int x8), (10, .int x10), (11, .int x11), (12, .int x12), (13, .int x13), (14, .int x14), (15, .int x15)] → W p l e rmL_parts s m args below meth c H locs cl sl (MQ below (gQ D vwCl (LwW cI cJ cQ ad ra ar σ) (LwW cI cJ cQ ad ra ar σ') (some (.int r)) s.heap.size) args s 10 54 (va_A (LwW cI cJ cQ ad ra ar σ) s.heap.size)) (F0 m 315 ls [.int y3, .int y2, .ref t2, .ref t2]) := by
    intro k111 kb111 ks111 hb111 hk111 t0 u0 hS0 t1 u1 hS1 t2 x2 x7 x8 x10 x11 x12 x13 x14 x15 y2 y3 xc σ1 H locs ls cl sl g1 g2 h hB hl
    rw [FL_parts_315] at h
    obtain ⟨b_24, h⟩ := gd h
    refine lXast (X' := [(t0, .inl (u0, 4, .inr (.inr (.inr (.inr (lAt adK)))))), (t1, .inl (u1, 10, .inr (.inr (.inr (.inr (lWo adK)))))), (t2, .inl (cI, 5, .inl (upd xc y2.toNatClampNeg y3)))]) (t0 := 0) S hK hB 2 rfl rfl b_24 rfl dL_parts_315 (fun H locs hB => ?_)
    refine lv_dup S.1 S.2.1 dL_parts_316 rfl ?_
    refine lv_iconst (v := (4 : Int32)) S.1 S.2.1 dL_parts_317 (by decide) ?_
    refine lv_iload S.1 S.2.1 dL_parts_318 (lv_at hl 13 rfl) ?_
    refine lv_if_eq (tgt := 328) S.1 S.2.1 dL_parts_320 (by decide) (fun c_25 => ?_) (fun c_25 => ?_)
    · replace h := (if_pos c_25).symm.trans h
      refine lv_iconst (v := (-1 : Int32)) S.1 S.2.1 dL_parts_328 (by decide) ?_
      refine lXast (X' := [(t0, .inl (u0, 4, .inr (.inr (.inr (.inr (lAt adK)))))), (t1, .inl (u1, 10, .inr (.inr (.inr (.inr (lWo adK)))))), (t2, .inl (cI, 5, .inl (upd (upd xc y2.toNatClampNeg y3) (4 : Int32).toNatClampNeg (-1 : Int32))))]) (t0 := 0) S hK hB 2 rfl rfl (by unfold vp_in; decide) rfl dL_parts_329 (fun H locs hB => ?_)
      refine lv_astore (lv' := [(16, .ref t2), (0, .ref (ar 0)), (1, .ref b), (2, .int x2), (4, .ref (ar 1)), (5, .ref t0), (6, .ref t1), (7, .int x7), (8, .int x8), (10, .int x10), (11, .int x11), (12, .int x12), (13, .int x13), (14, .int x14), (15, .int x15)]) S.1 S.2.1 dL_parts_330 hl (by decide) rfl (fun ls hl => ?_)
      refine lv_iconst (v := (0 : Int32)) S.1 S.2.1 dL_parts_332 (by decide) ?_
      refine lv_istore (lv' := [(17, .int (0 : Int32)), (16, .ref t2), (0, .ref (ar 0)), (1, .ref b), (2, .int x2), (4, .ref (ar 1)), (5, .ref t0), (6, .ref t1), (7, .int x7), (8, .int x8), (10, .int x10), (11, .int x11), (12, .int x12), (13, .int x13), (14, .int x14), (15, .int x15)]) S.1 S.2.1 dL_parts_333 hl (by decide) rfl (fun ls hl => ?_)
      exact P335 k111 _ _ hb111 hk111 L _ _ hS0 _ _ hS1 _ _ _ _ _ _ _ _ _ _ _ _ _ _ _ _ _ _ (by omega) (by omega) h hB (lv_sub hl [2, 3, 4, 5, 6, 7, 8, 9, 10, 11, 12, 13, 14, 15, 1, 0] rfl)
    · replace h := (if_neg c_25).symm.trans h
      refine lv_iload S.1 S.2.1 dL_parts_323 (lv_at hl 12 rfl) ?_
      refine lv_goto (tgt := 329) S.1 S.2.1 dL_parts_325 (by decide) ?_
      refine lXast (X' := [(t0, .inl (u0, 4, .inr (.inr (.inr (.inr (lAt adK)))))), (t1, .inl (u1, 10, .inr (.inr (.inr (.inr (lWo adK)))))), (t2, .inl (cI, 5, .inl (upd (upd xc y2.toNatClampNeg y3) (4 : Int32).toNatClampNeg x14)))]) (t0 := 0) S hK hB 2 rfl rfl (by unfold vp_in; decide) rfl dL_parts_329 (fun H locs hB => ?_)
      refine lv_astore (lv' := [(16, .ref t2), (0, .ref (ar 0)), (1, .ref b), (2, .int x2), (4, .ref (ar 1)), (5, .ref t0), (6, .ref t1), (7, .int x7), (8, .int x8), (10, .int x10), (11, .int x11), (12, .int x12), (13, .int x13), (14, .int x14), (15, .int x15)]) S.1 S.2.1 dL_parts_330 hl (by decide) rfl (fun ls hl => ?_)
      refine lv_iconst (v := (0 : Int32)) S.1 S.2.1 dL_parts_332 (by decide) ?_
      refine lv_istore (lv' := [(17, .int (0 : Int32)), (16, .ref t2), (0, .ref (ar 0)), (1, .ref b), (2, .int x2), (4, .ref (ar 1)), (5, .ref t0), (6, .ref t1), (7, .int x7), (8, .int x8), (10, .int x10), (11, .int x11), (12, .int x12), (13, .int x13), (14, .int x14), (15, .int x15)]) S.1 S.2.1 dL_parts_333 hl (by decide) rfl (fun ls hl => ?_)
      exact P335 k111 _ _ hb111 hk111 L _ _ hS0 _ _ hS1 _ _ _ _ _ _ _ _ _ _ _ _ _ _ _ _ _ _ (by omega) (by omega) h hB (lv_sub hl [2, 3, 4, 5, 6, 7, 8, 9, 10, 11, 12, 13, 14, 15, 1, 0] rfl)
  have P282 : ∀ (k111 : Int32 → Int32 → Int32 → LwS → Option (Int32 × LwS)) (kb111 ks111 : Nat) (hb111 : kb111 ≤ 10 ∧ ks111 ≤ 54) (hk111 : ∀ (t0 : Nat) (u0 : ClassId) (_ : va_K D vwCl ([(cI, .int), (cJ, .long), (cQ, .array .long)] ++ [(u0, .object "java/lang/String")]) s) (t1 : Nat) (u1 : ClassId) (_ : va_K D vwCl ([(cI, .int), (cJ, .long), (cQ, .array .long)] ++ [(u1, .object "java/lang/String")]) s) (x2 : Int32) (x7 : Int32) (x8 : Int32) (σ1 : LwS) (H : Heap) (locs : List Loc) (ls : Array Slot) (cl sl : Nat), cl ≤ kb111 → sl ≤ ks111 → k111 x2 x7 x8 σ1 = some (r, σ') → gB D vwCl (va_A (LwW cI cJ cQ ad ra ar σ) s.heap.size) s.heap (LwW cI cJ cQ ad ra ar σ1) [(t0, .inl (u0, 4, .inr (.inr (.inr (.inr (lAt adK)))))), (t1, .inl (u1, 10, .inr (.inr (.inr (.inr (lWo adK))))))] H locs → lv_has ls 18 [(0, .ref (ar 0)), (1, .ref b), (2, .int x2), (4, .ref (ar 1)), (5, .ref t0), (6, .ref t1), (7, .int x7), (8, .int x8)] → W p l e rmL_parts s m args below meth c H locs cl sl (MQ below (gQ D vwCl (LwW cI cJ cQ ad ra ar σ) (LwW cI cJ cQ ad ra ar σ') (some (.int r)) s.heap.size) args s 10 54 (va_A (LwW cI cJ cQ ad ra ar σ) s.heap.size)) (F0 m 111 ls [])), ∀ (t0 : Nat) (u0 : ClassId) (_ : va_K D vwCl ([(cI, .int), (cJ, .long), (cQ, .array .long)] ++ [(u0, .object "java/lang/String")]) s) (t1 : Nat) (u1 : ClassId) (_ : va_K D vwCl ([(cI, .int), (cJ, .long), (cQ, .array .long)] ++ [(u1, .object "java/lang/String")]) s) (x2 : Int32) (x7 : Int32) (x8 : Int32) (x10 : Int32) (x11 : Int32) (x12 : Int32) (x13 : Int32) (x14 : Int32) (y0 : Int32) (σ1 : LwS) (H : Heap) (locs : List Loc) (ls : Array Slot) (cl sl : Nat), cl + 1 ≤ kb111 → sl + 5 ≤ ks111 → FL_parts_282 L N xs k111 x2 x7 x8 x10 x11 x12 x13 x14 y0 σ1 = some (r, σ') → gB D vwCl (va_A (LwW cI cJ cQ ad ra ar σ) s.heap.size) s.heap (LwW cI cJ cQ ad ra ar σ1) [(t0, .inl (u0, 4, .inr (.inr (.inr (.inr (lAt adK)))))), (t1, .inl (u1, 10, .inr (.inr (.inr (.inr (lWo adK))))))] H locs → lv_has ls 18 [(0, .ref (ar 0)), (1, .ref b), (2, .int x2), (4, .ref (ar 1)), (5, .ref t0), (6, .ref t1), (7, .int x7), (8, .int x8), (10, .int x10), (11, .int x11), (12, .int x12), (13, .int x13), (14, .int x14)] → W p l e rmL_parts s m args below meth c H locs cl sl (MQ below (gQ D vwCl (LwW cI cJ cQ ad ra ar σ) (LwW cI cJ cQ ad ra ar σ') (some (.int r)) s.heap.size) args s 10 54 (va_A (LwW cI cJ cQ ad ra ar σ) s.heap.size)) (F0 m 282 ls [.int y0]) := by
    intro k111 kb111 ks111 hb111 hk111 t0 u0 hS0 t1 u1 hS1 x2 x7 x8 x10 x11 x12 x13 x14 y0 σ1 H locs ls cl sl g1 g2 h hB hl
    rw [FL_parts_282] at h
    refine lv_istore (lv' := [(15, .int y0), (0, .ref (ar 0)), (1, .ref b), (2, .int x2), (4, .ref (ar 1)), (5, .ref t0), (6, .ref t1), (7, .int x7), (8, .int x8), (10, .int x10), (11, .int x11), (12, .int x12), (13, .int x13), (14, .int x14)]) S.1 S.2.1 dL_parts_282 hl (by decide) rfl (fun ls hl => ?_)
    refine lv_iconst (v := (5 : Int32)) S.1 S.2.1 dL_parts_284 (by decide) ?_
    refine gNewI (i := 0) (N := 5) S hK rfl hB hA (S.2.2.2.2 _ (List.mem_cons_of_mem _ wo_arr_int)) (by decide) rfl (by decide) ⟨by dsimp only [rmL_parts]; omega, by dsimp only [rmL_parts]; omega⟩ dL_parts_285 (fun q_19 H hB => ?_)
    replace hB : gB D vwCl _ _ (LwW cI cJ cQ ad ra ar σ1) [(t0, .inl (u0, 4, .inr (.inr (.inr (.inr (lAt adK)))))), (t1, .inl (u1, 10, .inr (.inr (.inr (.inr (lWo adK)))))), (q_19, .inl (cI, 5, .inl (fun _ => 0)))] _ _ := hB
    refine lv_dup S.1 S.2.1 dL_parts_287 rfl ?_
    refine lv_iconst (v := (0 : Int32)) S.1 S.2.1 dL_parts_288 (by decide) ?_
    refine lv_iload S.1 S.2.1 dL_parts_289 (lv_at hl 9 rfl) ?_
    refine lXast (X' := [(t0, .inl (u0, 4, .inr (.inr (.inr (.inr (lAt adK)))))), (t1, .inl (u1, 10, .inr (.inr (.inr (.inr (lWo adK)))))), (q_19, .inl (cI, 5, .inl (upd (fun _ => 0) (0 : Int32).toNatClampNeg x10)))]) (t0 := 0) S hK hB 2 rfl rfl (by unfold vp_in; decide) rfl dL_parts_291 (fun H locs hB => ?_)
    refine lv_dup S.1 S.2.1 dL_parts_292 rfl ?_
    refine lv_iconst (v := (1 : Int32)) S.1 S.2.1 dL_parts_293 (by decide) ?_
    refine lv_iload S.1 S.2.1 dL_parts_294 (lv_at hl 10 rfl) ?_
    refine lXast (X' := [(t0, .inl (u0, 4, .inr (.inr (.inr (.inr (lAt adK)))))), (t1, .inl (u1, 10, .inr (.inr (.inr (.inr (lWo adK)))))), (q_19, .inl (cI, 5, .inl (upd (upd (fun _ => 0) (0 : Int32).toNatClampNeg x10) (1 : Int32).toNatClampNeg x11)))]) (t0 := 0) S hK hB 2 rfl rfl (by unfold vp_in; decide) rfl dL_parts_296 (fun H locs hB => ?_)
    refine lv_dup S.1 S.2.1 dL_parts_297 rfl ?_
    refine lv_iconst (v := (2 : Int32)) S.1 S.2.1 dL_parts_298 (by decide) ?_
    refine lv_iload S.1 S.2.1 dL_parts_299 (lv_at hl 11 rfl) ?_
    refine lXast (X' := [(t0, .inl (u0, 4, .inr (.inr (.inr (.inr (lAt adK)))))), (t1, .inl (u1, 10, .inr (.inr (.inr (.inr (lWo adK)))))), (q_19, .inl (cI, 5, .inl (upd (upd (upd (fun _ => 0) (0 : Int32).toNatClampNeg x10) (1 : Int32).toNatClampNeg x11) (2 : Int32).toNatClampNeg x12)))]) (t0 := 0) S hK hB 2 rfl rfl (by unfold vp_in; decide) rfl dL_parts_301 (fun H locs hB => ?_)
    refine lv_dup S.1 S.2.1 dL_parts_302 rfl ?_
    refine lv_iconst (v := (3 : Int32)) S.1 S.2.1 dL_parts_303 (by decide) ?_
    refine lv_iload S.1 S.2.1 dL_parts_304 (lv_at hl 0 rfl) ?_
    refine lv_if_eq (tgt := 314) S.1 S.2.1 dL_parts_306 (by decide) (fun c_23 => ?_) (fun c_23 => ?_)
    · replace h := (if_pos c_23).symm.trans h
      refine lv_iconst (v := (0 : Int32)) S.1 S.2.1 dL_parts_314 (by decide) ?_
      exact P315 k111 _ _ hb111 hk111 _ _ hS0 _ _ hS1 _ _ _ _ _ _ _ _ _ _ _ _ _ _ _ _ _ _ _ (by omega) (by omega) h hB (lv_sub hl [1, 2, 3, 4, 5, 6, 7, 8, 9, 10, 11, 12, 13, 0] rfl)
    · replace h := (if_neg c_23).symm.trans h
      refine lv_iload S.1 S.2.1 dL_parts_309 (lv_at hl 12 rfl) ?_
      refine lv_goto (tgt := 315) S.1 S.2.1 dL_parts_311 (by decide) ?_
      exact P315 k111 _ _ hb111 hk111 _ _ hS0 _ _ hS1 _ _ _ _ _ _ _ _ _ _ _ _ _ _ _ _ _ _ _ (by omega) (by omega) h hB (lv_sub hl [1, 2, 3, 4, 5, 6, 7, 8, 9, 10, 11, 12, 13, 0] rfl)
  have P281 : ∀ (k111 : Int32 → Int32 → Int32 → LwS → Option (Int32 × LwS)) (kb111 ks111 : Nat) (hb111 : kb111 ≤ 10 ∧ ks111 ≤ 54) (hk111 : ∀ (t0 : Nat) (u0 : ClassId) (_ : va_K D vwCl ([(cI, .int), (cJ, .long), (cQ, .array .long)] ++ [(u0, .object "java/lang/String")]) s) (t1 : Nat) (u1 : ClassId) (_ : va_K D vwCl ([(cI, .int), (cJ, .long), (cQ, .array .long)] ++ [(u1, .object "java/lang/String")]) s) (x2 : Int32) (x7 : Int32) (x8 : Int32) (σ1 : LwS) (H : Heap) (locs : List Loc) (ls : Array Slot) (cl sl : Nat), cl ≤ kb111 → sl ≤ ks111 → k111 x2 x7 x8 σ1 = some (r, σ') → gB D vwCl (va_A (LwW cI cJ cQ ad ra ar σ) s.heap.size) s.heap (LwW cI cJ cQ ad ra ar σ1) [(t0, .inl (u0, 4, .inr (.inr (.inr (.inr (lAt adK)))))), (t1, .inl (u1, 10, .inr (.inr (.inr (.inr (lWo adK))))))] H locs → lv_has ls 18 [(0, .ref (ar 0)), (1, .ref b), (2, .int x2), (4, .ref (ar 1)), (5, .ref t0), (6, .ref t1), (7, .int x7), (8, .int x8)] → W p l e rmL_parts s m args below meth c H locs cl sl (MQ below (gQ D vwCl (LwW cI cJ cQ ad ra ar σ) (LwW cI cJ cQ ad ra ar σ') (some (.int r)) s.heap.size) args s 10 54 (va_A (LwW cI cJ cQ ad ra ar σ) s.heap.size)) (F0 m 111 ls [])), ∀ (t0 : Nat) (u0 : ClassId) (_ : va_K D vwCl ([(cI, .int), (cJ, .long), (cQ, .array .long)] ++ [(u0, .object "java/lang/String")]) s) (t1 : Nat) (u1 : ClassId) (_ : va_K D vwCl ([(cI, .int), (cJ, .long), (cQ, .array .long)] ++ [(u1, .object "java/lang/String")]) s) (x2 : Int32) (x7 : Int32) (x8 : Int32) (x10 : Int32) (x11 : Int32) (x12 : Int32) (x13 : Int32) (x14 : Int32) (σ1 : LwS) (H : Heap) (locs : List Loc) (ls : Array Slot) (cl sl : Nat), cl + 1 ≤ kb111 → sl + 5 ≤ ks111 → FL_parts_281 L N xs k111 x2 x7 x8 x10 x11 x12 x13 x14 σ1 = some (r, σ') → gB D vwCl (va_A (LwW cI cJ cQ ad ra ar σ) s.heap.size) s.heap (LwW cI cJ cQ ad ra ar σ1) [(t0, .inl (u0, 4, .inr (.inr (.inr (.inr (lAt adK)))))), (t1, .inl (u1, 10, .inr (.inr (.inr (.inr (lWo adK))))))] H locs → lv_has ls 18 [(0, .ref (ar 0)), (1, .ref b), (2, .int x2), (4, .ref (ar 1)), (5, .ref t0), (6, .ref t1), (7, .int x7), (8, .int x8), (10, .int x10), (11, .int x11), (12, .int x12), (13, .int x13), (14, .int x14)] → W p l e rmL_parts s m args below meth c H locs cl sl (MQ below (gQ D vwCl (LwW cI cJ cQ ad ra ar σ) (LwW cI cJ cQ ad ra ar σ') (some (.int r)) s.heap.size) args s 10 54 (va_A (LwW cI cJ cQ ad ra ar σ) s.heap.size)) (F0 m 281 ls []) := by
    intro k111 kb111 ks111 hb111 hk111 t0 u0 hS0 t1 u1 hS1 x2 x7 x8 x10 x11 x12 x13 x14 σ1 H locs ls cl sl g1 g2 h hB hl
    rw [FL_parts_281] at h
    refine lv_iconst (v := (0 : Int32)) S.1 S.2.1 dL_parts_281 (by decide) ?_
    exact P282 k111 _ _ hb111 hk111 _ _ hS0 _ _ hS1 _ _ _ _ _ _ _ _ _ _ _ _ _ _ _ (by omega) (by omega) h hB hl
  have P257 : ∀ (k111 : Int32 → Int32 → Int32 → LwS → Option (Int32 × LwS)) (kb111 ks111 : Nat) (hb111 : kb111 ≤ 10 ∧ ks111 ≤ 54) (hk111 : ∀ (t0 : Nat) (u0 : ClassId) (_ : va_K D vwCl ([(cI, .int), (cJ, .long), (cQ, .array .long)] ++ [(u0, .object "java/lang/String")]) s) (t1 : Nat) (u1 : ClassId) (_ : va_K D vwCl ([(cI, .int), (cJ, .long), (cQ, .array .long)] ++ [(u1, .object "java/lang/String")]) s) (x2 : Int32) (x7 : Int32) (x8 : Int32) (σ1 : LwS) (H : Heap) (locs : List Loc) (ls : Array Slot) (cl sl : Nat), cl ≤ kb111 → sl ≤ ks111 → k111 x2 x7 x8 σ1 = some (r, σ') → gB D vwCl (va_A (LwW cI cJ cQ ad ra ar σ) s.heap.size) s.heap (LwW cI cJ cQ ad ra ar σ1) [(t0, .inl (u0, 4, .inr (.inr (.inr (.inr (lAt adK)))))), (t1, .inl (u1, 10, .inr (.inr (.inr (.inr (lWo adK))))))] H locs → lv_has ls 18 [(0, .ref (ar 0)), (1, .ref b), (2, .int x2), (4, .ref (ar 1)), (5, .ref t0), (6, .ref t1), (7, .int x7), (8, .int x8)] → W p l e rmL_parts s m args below meth c H locs cl sl (MQ below (gQ D vwCl (LwW cI cJ cQ ad ra ar σ) (LwW cI cJ cQ ad ra ar σ') (some (.int r)) s.heap.size) args s 10 54 (va_A (LwW cI cJ cQ ad ra ar σ) s.heap.size)) (F0 m 111 ls [])), ∀ (t0 : Nat) (u0 : ClassId) (_ : va_K D vwCl ([(cI, .int), (cJ, .long), (cQ, .array .long)] ++ [(u0, .object "java/lang/String")]) s) (t1 : Nat) (u1 : ClassId) (_ : va_K D vwCl ([(cI, .int), (cJ, .long), (cQ, .array .long)] ++ [(u1, .object "java/lang/String")]) s) (x2 : Int32) (x7 : Int32) (x8 : Int32) (x10 : Int32) (x11 : Int32) (x12 : Int32) (x13 : Int32) (y0 : Int32) (σ1 : LwS) (H : Heap) (locs : List Loc) (ls : Array Slot) (cl sl : Nat), cl + 1 ≤ kb111 → sl + 5 ≤ ks111 → FL_parts_257 L N xs k111 x2 x7 x8 x10 x11 x12 x13 y0 σ1 = some (r, σ') → gB D vwCl (va_A (LwW cI cJ cQ ad ra ar σ) s.heap.size) s.heap (LwW cI cJ cQ ad ra ar σ1) [(t0, .inl (u0, 4, .inr (.inr (.inr (.inr (lAt adK)))))), (t1, .inl (u1, 10, .inr (.inr (.inr (.inr (lWo adK))))))] H locs → lv_has ls 18 [(0, .ref (ar 0)), (1, .ref b), (2, .int x2), (4, .ref (ar 1)), (5, .ref t0), (6, .ref t1), (7, .int x7), (8, .int x8), (10, .int x10), (11, .int x11), (12, .int x12), (13, .int x13)] → W p l e rmL_parts s m args below meth c H locs cl sl (MQ below (gQ D vwCl (LwW cI cJ cQ ad ra ar σ) (LwW cI cJ cQ ad ra ar σ') (some (.int r)) s.heap.size) args s 10 54 (va_A (LwW cI cJ cQ ad ra ar σ) s.heap.size)) (F0 m 257 ls [.int y0]) := by
    intro k111 kb111 ks111 hb111 hk111 t0 u0 hS0 t1 u1 hS1 x2 x7 x8 x10 x11 x12 x13 y0 σ1 H locs ls cl sl g1 g2 h hB hl
    rw [FL_parts_257] at h
    refine lv_istore (lv' := [(14, .int y0), (0, .ref (ar 0)), (1, .ref b), (2, .int x2), (4, .ref (ar 1)), (5, .ref t0), (6, .ref t1), (7, .int x7), (8, .int x8), (10, .int x10), (11, .int x11), (12, .int x12), (13, .int x13)]) S.1 S.2.1 dL_parts_257 hl (by decide) rfl (fun ls hl => ?_)
    refine lv_iload S.1 S.2.1 dL_parts_259 (lv_at hl 9 rfl) ?_
    refine lv_iconst (v := (3 : Int32)) S.1 S.2.1 dL_parts_261 (by decide) ?_
    refine lv_icmp_le (tgt := 281) S.1 S.2.1 dL_parts_262 (by decide) (fun c_18 => ?_) (fun c_18 => ?_)
    · replace h := (if_pos c_18).symm.trans h
      exact P281 k111 _ _ hb111 hk111 _ _ hS0 _ _ hS1 _ _ _ _ _ _ _ _ _ _ _ _ _ _ (by omega) (by omega) h hB (lv_sub hl [1, 2, 3, 4, 5, 6, 7, 8, 9, 10, 11, 12, 0] rfl)
    · replace h := (if_neg c_18).symm.trans h
      refine lv_iload S.1 S.2.1 dL_parts_265 (lv_at hl 9 rfl) ?_
      refine lv_bipush (v := (7 : Int32)) S.1 S.2.1 dL_parts_267 (by decide) ?_
      refine lv_icmp_ge (tgt := 281) S.1 S.2.1 dL_parts_269 (by decide) (fun c_52 => ?_) (fun c_52 => ?_)
      · replace h := (if_pos c_52).symm.trans h
        exact P281 k111 _ _ hb111 hk111 _ _ hS0 _ _ hS1 _ _ _ _ _ _ _ _ _ _ _ _ _ _ (by omega) (by omega) h hB (lv_sub hl [1, 2, 3, 4, 5, 6, 7, 8, 9, 10, 11, 12, 0] rfl)
      · replace h := (if_neg c_52).symm.trans h
        refine lv_iload S.1 S.2.1 dL_parts_272 (lv_at hl 0 rfl) ?_
        refine lv_if_lt (tgt := 281) S.1 S.2.1 dL_parts_274 (by decide) (fun c_53 => ?_) (fun c_53 => ?_)
        · replace h := (if_pos c_53).symm.trans h
          exact P281 k111 _ _ hb111 hk111 _ _ hS0 _ _ hS1 _ _ _ _ _ _ _ _ _ _ _ _ _ _ (by omega) (by omega) h hB (lv_sub hl [1, 2, 3, 4, 5, 6, 7, 8, 9, 10, 11, 12, 0] rfl)
        · replace h := (if_neg c_53).symm.trans h
          refine lv_iconst (v := (1 : Int32)) S.1 S.2.1 dL_parts_277 (by decide) ?_
          refine lv_goto (tgt := 282) S.1 S.2.1 dL_parts_278 (by decide) ?_
          exact P282 k111 _ _ hb111 hk111 _ _ hS0 _ _ hS1 _ _ _ _ _ _ _ _ _ _ _ _ _ _ _ (by omega) (by omega) h hB (lv_sub hl [1, 2, 3, 4, 5, 6, 7, 8, 9, 10, 11, 12, 0] rfl)
  have P216 : ∀ (k111 : Int32 → Int32 → Int32 → LwS → Option (Int32 × LwS)) (kb111 ks111 : Nat) (hb111 : kb111 ≤ 10 ∧ ks111 ≤ 54) (hk111 : ∀ (t0 : Nat) (u0 : ClassId) (_ : va_K D vwCl ([(cI, .int), (cJ, .long), (cQ, .array .long)] ++ [(u0, .object "java/lang/String")]) s) (t1 : Nat) (u1 : ClassId) (_ : va_K D vwCl ([(cI, .int), (cJ, .long), (cQ, .array .long)] ++ [(u1, .object "java/lang/String")]) s) (x2 : Int32) (x7 : Int32) (x8 : Int32) (σ1 : LwS) (H : Heap) (locs : List Loc) (ls : Array Slot) (cl sl : Nat), cl ≤ kb111 → sl ≤ ks111 → k111 x2 x7 x8 σ1 = some (r, σ') → gB D vwCl (va_A (LwW cI cJ cQ ad ra ar σ) s.heap.size) s.heap (LwW cI cJ cQ ad ra ar σ1) [(t0, .inl (u0, 4, .inr (.inr (.inr (.inr (lAt adK)))))), (t1, .inl (u1, 10, .inr (.inr (.inr (.inr (lWo adK))))))] H locs → lv_has ls 18 [(0, .ref (ar 0)), (1, .ref b), (2, .int x2), (4, .ref (ar 1)), (5, .ref t0), (6, .ref t1), (7, .int x7), (8, .int x8)] → W p l e rmL_parts s m args below meth c H locs cl sl (MQ below (gQ D vwCl (LwW cI cJ cQ ad ra ar σ) (LwW cI cJ cQ ad ra ar σ') (some (.int r)) s.heap.size) args s 10 54 (va_A (LwW cI cJ cQ ad ra ar σ) s.heap.size)) (F0 m 111 ls [])), ∀ (t0 : Nat) (u0 : ClassId) (_ : va_K D vwCl ([(cI, .int), (cJ, .long), (cQ, .array .long)] ++ [(u0, .object "java/lang/String")]) s) (t1 : Nat) (u1 : ClassId) (_ : va_K D vwCl ([(cI, .int), (cJ, .long), (cQ, .array .long)] ++ [(u1, .object "java/lang/String")]) s) (x2 : Int32) (x7 : Int32) (x8 : Int32) (x9 : Int32) (x10 : Int32) (x11 : Int32) (y0 : Int32) (σ1 : LwS) (H : Heap) (locs : List Loc) (ls : Array Slot) (cl sl : Nat), cl + 1 ≤ kb111 → sl + 5 ≤ ks111 → FL_parts_216 L N xs k111 x2 x7 x8 x9 x10 x11 y0 σ1 = some (r, σ') → gB D vwCl (va_A (LwW cI cJ cQ ad ra ar σ) s.heap.size) s.heap (LwW cI cJ cQ ad ra ar σ1) [(t0, .inl (u0, 4, .inr (.inr (.inr (.inr (lAt adK)))))), (t1, .inl (u1, 10, .inr (.inr (.inr (.inr (lWo adK))))))] H locs → lv_has ls 18 [(0, .ref (ar 0)), (1, .ref b), (2, .int x2), (4, .ref (ar 1)), (5, .ref t0), (6, .ref t1), (7, .int x7), (8, .int x8), (9, .int x9), (10, .int x10), (11, .int x11)] → W p l e rmL_parts s m args below meth c H locs cl sl (MQ below (gQ D vwCl (LwW cI cJ cQ ad ra ar σ) (LwW cI cJ cQ ad ra ar σ') (some (.int r)) s.heap.size) args s 10 54 (va_A (LwW cI cJ cQ ad ra ar σ) s.heap.size)) (F0 m 216 ls [.int y0]) := by
    intro k111 kb111 ks111 hb111 hk111 t0 u0 hS0 t1 u1 hS1 x2 x7 x8 x9 x10 x11 y0 σ1 H locs ls cl sl g1 g2 h hB hl
    rw [FL_parts_216] at h
    refine lv_istore (lv' := [(12, .int y0), (0, .ref (ar 0)), (1, .ref b), (2, .int x2), (4, .ref (ar 1)), (5, .ref t0), (6, .ref t1), (7, .int x7), (8, .int x8), (9, .int x9), (10, .int x10), (11, .int x11)]) S.1 S.2.1 dL_parts_216 hl (by decide) rfl (fun ls hl => ?_)
    refine lv_iload S.1 S.2.1 dL_parts_218 (lv_at hl 9 rfl) ?_
    refine lv_bipush (v := (10 : Int32)) S.1 S.2.1 dL_parts_220 (by decide) ?_
    refine lv_ishr S.1 S.2.1 dL_parts_222 ?_
    refine lv_iconst (v := (4 : Int32)) S.1 S.2.1 dL_parts_223 (by decide) ?_
    obtain ⟨r_14, e_14, h⟩ := bnd h
    refine gCallS (v := some (.int r_14)) S hK lKSc hKS hA (kL_below e_14) (cwL_75 S.2.2.2.2 (rm := rmL_below) rfl rfl ⟨(Nat.le_of_ble_eq_true rfl), (Nat.le_of_ble_eq_true rfl)⟩) hB rfl hl.1 rfl (lv_room (Nat.le_of_ble_eq_true rfl)) dL_parts_224 ⟨by dsimp only [rmL_parts]; omega, by dsimp only [rmL_parts]; omega⟩ (fun H locs hB => ?_)
    refine lv_istore (lv' := [(13, .int r_14), (12, .int y0), (0, .ref (ar 0)), (1, .ref b), (2, .int x2), (4, .ref (ar 1)), (5, .ref t0), (6, .ref t1), (7, .int x7), (8, .int x8), (9, .int x9), (10, .int x10), (11, .int x11)]) S.1 S.2.1 dL_parts_227 hl (by decide) rfl (fun ls hl => ?_)
    refine lv_iload S.1 S.2.1 dL_parts_229 (lv_at hl 10 rfl) ?_
    refine lv_bipush (v := (13 : Int32)) S.1 S.2.1 dL_parts_231 (by decide) ?_
    refine lv_ishr S.1 S.2.1 dL_parts_233 ?_
    refine lv_iconst (v := (3 : Int32)) S.1 S.2.1 dL_parts_234 (by decide) ?_
    obtain ⟨r_15, e_15, h⟩ := bnd h
    refine gCallS (v := some (.int r_15)) S hK lKSc hKS hA (kL_below e_15) (cwL_75 S.2.2.2.2 (rm := rmL_below) rfl rfl ⟨(Nat.le_of_ble_eq_true rfl), (Nat.le_of_ble_eq_true rfl)⟩) hB rfl hl.1 rfl (lv_room (Nat.le_of_ble_eq_true rfl)) dL_parts_235 ⟨by dsimp only [rmL_parts]; omega, by dsimp only [rmL_parts]; omega⟩ (fun H locs hB => ?_)
    refine lv_if_ne (tgt := 245) S.1 S.2.1 dL_parts_238 (by decide) (fun c_16 => ?_) (fun c_16 => ?_)
    · replace h := (if_neg c_16).symm.trans h
      refine lv_iload S.1 S.2.1 dL_parts_245 (lv_at hl 0 rfl) ?_
      refine lv_iload S.1 S.2.1 dL_parts_247 (lv_at hl 10 rfl) ?_
      refine lv_bipush (v := (15 : Int32)) S.1 S.2.1 dL_parts_249 (by decide) ?_
      refine lv_ishr S.1 S.2.1 dL_parts_251 ?_
      refine lv_iconst (v := (5 : Int32)) S.1 S.2.1 dL_parts_252 (by decide) ?_
      obtain ⟨r_17, e_17, h⟩ := bnd h
      refine gCallS (v := some (.int r_17)) S hK lKSc hKS hA (kL_below e_17) (cwL_75 S.2.2.2.2 (rm := rmL_below) rfl rfl ⟨(Nat.le_of_ble_eq_true rfl), (Nat.le_of_ble_eq_true rfl)⟩) hB rfl hl.1 rfl (lv_room (Nat.le_of_ble_eq_true rfl)) dL_parts_253 ⟨by dsimp only [rmL_parts]; omega, by dsimp only [rmL_parts]; omega⟩ (fun H locs hB => ?_)
      refine lv_iadd S.1 S.2.1 dL_parts_256 ?_
      exact P257 k111 _ _ hb111 hk111 _ _ hS0 _ _ hS1 _ _ _ _ _ _ _ _ _ _ _ _ _ _ (by omega) (by omega) h hB (lv_sub hl [2, 3, 4, 5, 6, 7, 8, 9, 11, 12, 1, 0] rfl)
    · replace h := (if_pos c_16).symm.trans h
      refine lv_iconst (v := (-1 : Int32)) S.1 S.2.1 dL_parts_241 (by decide) ?_
      refine lv_goto (tgt := 257) S.1 S.2.1 dL_parts_242 (by decide) ?_
      exact P257 k111 _ _ hb111 hk111 _ _ hS0 _ _ hS1 _ _ _ _ _ _ _ _ _ _ _ _ _ _ (by omega) (by omega) h hB (lv_sub hl [2, 3, 4, 5, 6, 7, 8, 9, 11, 12, 1, 0] rfl)
  have P194 : ∀ (k111 : Int32 → Int32 → Int32 → LwS → Option (Int32 × LwS)) (kb111 ks111 : Nat) (hb111 : kb111 ≤ 10 ∧ ks111 ≤ 54) (hk111 : ∀ (t0 : Nat) (u0 : ClassId) (_ : va_K D vwCl ([(cI, .int), (cJ, .long), (cQ, .array .long)] ++ [(u0, .object "java/lang/String")]) s) (t1 : Nat) (u1 : ClassId) (_ : va_K D vwCl ([(cI, .int), (cJ, .long), (cQ, .array .long)] ++ [(u1, .object "java/lang/String")]) s) (x2 : Int32) (x7 : Int32) (x8 : Int32) (σ1 : LwS) (H : Heap) (locs : List Loc) (ls : Array Slot) (cl sl : Nat), cl ≤ kb111 → sl ≤ ks111 → k111 x2 x7 x8 σ1 = some (r, σ') → gB D vwCl (va_A (LwW cI cJ cQ ad ra ar σ) s.heap.size) s.heap (LwW cI cJ cQ ad ra ar σ1) [(t0, .inl (u0, 4, .inr (.inr (.inr (.inr (lAt adK)))))), (t1, .inl (u1, 10, .inr (.inr (.inr (.inr (lWo adK))))))] H locs → lv_has ls 18 [(0, .ref (ar 0)), (1, .ref b), (2, .int x2), (4, .ref (ar 1)), (5, .ref t0), (6, .ref t1), (7, .int x7), (8, .int x8)] → W p l e rmL_parts s m args below meth c H locs cl sl (MQ below (gQ D vwCl (LwW cI cJ cQ ad ra ar σ) (LwW cI cJ cQ ad ra ar σ') (some (.int r)) s.heap.size) args s 10 54 (va_A (LwW cI cJ cQ ad ra ar σ) s.heap.size)) (F0 m 111 ls [])), ∀ (t0 : Nat) (u0 : ClassId) (_ : va_K D vwCl ([(cI, .int), (cJ, .long), (cQ, .array .long)] ++ [(u0, .object "java/lang/String")]) s) (t1 : Nat) (u1 : ClassId) (_ : va_K D vwCl ([(cI, .int), (cJ, .long), (cQ, .array .long)] ++ [(u1, .object "java/lang/String")]) s) (x2 : Int32) (x7 : Int32) (x8 : Int32) (x9 : Int32) (x10 : Int32) (y0 : Int32) (σ1 : LwS) (H : Heap) (locs : List Loc) (ls : Array Slot) (cl sl : Nat), cl + 1 ≤ kb111 → sl + 5 ≤ ks111 → FL_parts_194 L N xs k111 x2 x7 x8 x9 x10 y0 σ1 = some (r, σ') → gB D vwCl (va_A (LwW cI cJ cQ ad ra ar σ) s.heap.size) s.heap (LwW cI cJ cQ ad ra ar σ1) [(t0, .inl (u0, 4, .inr (.inr (.inr (.inr (lAt adK)))))), (t1, .inl (u1, 10, .inr (.inr (.inr (.inr (lWo adK))))))] H locs → lv_has ls 18 [(0, .ref (ar 0)), (1, .ref b), (2, .int x2), (4, .ref (ar 1)), (5, .ref t0), (6, .ref t1), (7, .int x7), (8, .int x8), (9, .int x9), (10, .int x10)] → W p l e rmL_parts s m args below meth c H locs cl sl (MQ below (gQ D vwCl (LwW cI cJ cQ ad ra ar σ) (LwW cI cJ cQ ad ra ar σ') (some (.int r)) s.heap.size) args s 10 54 (va_A (LwW cI cJ cQ ad ra ar σ) s.heap.size)) (F0 m 194 ls [.int y0]) := by
    intro k111 kb111 ks111 hb111 hk111 t0 u0 hS0 t1 u1 hS1 x2 x7 x8 x9 x10 y0 σ1 H locs ls cl sl g1 g2 h hB hl
    rw [FL_parts_194] at h
    refine lv_istore (lv' := [(11, .int y0), (0, .ref (ar 0)), (1, .ref b), (2, .int x2), (4, .ref (ar 1)), (5, .ref t0), (6, .ref t1), (7, .int x7), (8, .int x8), (9, .int x9), (10, .int x10)]) S.1 S.2.1 dL_parts_194 hl (by decide) rfl (fun ls hl => ?_)
    refine lv_iload S.1 S.2.1 dL_parts_196 (lv_at hl 8 rfl) ?_
    refine lv_iconst (v := (2 : Int32)) S.1 S.2.1 dL_parts_198 (by decide) ?_
    refine lv_icmp_ge (tgt := 206) S.1 S.2.1 dL_parts_199 (by decide) (fun c_12 => ?_) (fun c_12 => ?_)
    · replace h := (if_pos c_12).symm.trans h
      refine lv_iload S.1 S.2.1 dL_parts_206 (lv_at hl 9 rfl) ?_
      refine lv_bipush (v := (7 : Int32)) S.1 S.2.1 dL_parts_208 (by decide) ?_
      refine lv_ishr S.1 S.2.1 dL_parts_210 ?_
      refine lv_iload S.1 S.2.1 dL_parts_211 (lv_at hl 8 rfl) ?_
      obtain ⟨r_13, e_13, h⟩ := bnd h
      refine gCallS (v := some (.int r_13)) S hK lKSc hKS hA (kL_below e_13) (cwL_75 S.2.2.2.2 (rm := rmL_below) rfl rfl ⟨(Nat.le_of_ble_eq_true rfl), (Nat.le_of_ble_eq_true rfl)⟩) hB rfl hl.1 rfl (lv_room (Nat.le_of_ble_eq_true rfl)) dL_parts_213 ⟨by dsimp only [rmL_parts]; omega, by dsimp only [rmL_parts]; omega⟩ (fun H locs hB => ?_)
      exact P216 k111 _ _ hb111 hk111 _ _ hS0 _ _ hS1 _ _ _ _ _ _ _ _ _ _ _ _ _ (by omega) (by omega) h hB (lv_sub hl [1, 2, 3, 4, 5, 6, 7, 8, 9, 10, 0] rfl)
    · replace h := (if_neg c_12).symm.trans h
      refine lv_iconst (v := (0 : Int32)) S.1 S.2.1 dL_parts_202 (by decide) ?_
      refine lv_goto (tgt := 216) S.1 S.2.1 dL_parts_203 (by decide) ?_
      exact P216 k111 _ _ hb111 hk111 _ _ hS0 _ _ hS1 _ _ _ _ _ _ _ _ _ _ _ _ _ (by omega) (by omega) h hB (lv_sub hl [1, 2, 3, 4, 5, 6, 7, 8, 9, 10, 0] rfl)
  have P173 : ∀ (k111 : Int32 → Int32 → Int32 → LwS → Option (Int32 × LwS)) (kb111 ks111 : Nat) (hb111 : kb111 ≤ 10 ∧ ks111 ≤ 54) (hk111 : ∀ (t0 : Nat) (u0 : ClassId) (_ : va_K D vwCl ([(cI, .int), (cJ, .long), (cQ, .array .long)] ++ [(u0, .object "java/lang/String")]) s) (t1 : Nat) (u1 : ClassId) (_ : va_K D vwCl ([(cI, .int), (cJ, .long), (cQ, .array .long)] ++ [(u1, .object "java/lang/String")]) s) (x2 : Int32) (x7 : Int32) (x8 : Int32) (σ1 : LwS) (H : Heap) (locs : List Loc) (ls : Array Slot) (cl sl : Nat), cl ≤ kb111 → sl ≤ ks111 → k111 x2 x7 x8 σ1 = some (r, σ') → gB D vwCl (va_A (LwW cI cJ cQ ad ra ar σ) s.heap.size) s.heap (LwW cI cJ cQ ad ra ar σ1) [(t0, .inl (u0, 4, .inr (.inr (.inr (.inr (lAt adK)))))), (t1, .inl (u1, 10, .inr (.inr (.inr (.inr (lWo adK))))))] H locs → lv_has ls 18 [(0, .ref (ar 0)), (1, .ref b), (2, .int x2), (4, .ref (ar 1)), (5, .ref t0), (6, .ref t1), (7, .int x7), (8, .int x8)] → W p l e rmL_parts s m args below meth c H locs cl sl (MQ below (gQ D vwCl (LwW cI cJ cQ ad ra ar σ) (LwW cI cJ cQ ad ra ar σ') (some (.int r)) s.heap.size) args s 10 54 (va_A (LwW cI cJ cQ ad ra ar σ) s.heap.size)) (F0 m 111 ls [])), ∀ (t0 : Nat) (u0 : ClassId) (_ : va_K D vwCl ([(cI, .int), (cJ, .long), (cQ, .array .long)] ++ [(u0, .object "java/lang/String")]) s) (t1 : Nat) (u1 : ClassId) (_ : va_K D vwCl ([(cI, .int), (cJ, .long), (cQ, .array .long)] ++ [(u1, .object "java/lang/String")]) s) (x2 : Int32) (x7 : Int32) (x8 : Int32) (x9 : Int32) (y0 : Int32) (σ1 : LwS) (H : Heap) (locs : List Loc) (ls : Array Slot) (cl sl : Nat), cl + 1 ≤ kb111 → sl + 5 ≤ ks111 → FL_parts_173 L N xs k111 x2 x7 x8 x9 y0 σ1 = some (r, σ') → gB D vwCl (va_A (LwW cI cJ cQ ad ra ar σ) s.heap.size) s.heap (LwW cI cJ cQ ad ra ar σ1) [(t0, .inl (u0, 4, .inr (.inr (.inr (.inr (lAt adK)))))), (t1, .inl (u1, 10, .inr (.inr (.inr (.inr (lWo adK))))))] H locs → lv_has ls 18 [(0, .ref (ar 0)), (1, .ref b), (2, .int x2), (4, .ref (ar 1)), (5, .ref t0), (6, .ref t1), (7, .int x7), (8, .int x8), (9, .int x9)] → W p l e rmL_parts s m args below meth c H locs cl sl (MQ below (gQ D vwCl (LwW cI cJ cQ ad ra ar σ) (LwW cI cJ cQ ad ra ar σ') (some (.int r)) s.heap.size) args s 10 54 (va_A (LwW cI cJ cQ ad ra ar σ) s.heap.size)) (F0 m 173 ls [.int y0]) := by
    intro k111 kb111 ks111 hb111 hk111 t0 u0 hS0 t1 u1 hS1 x2 x7 x8 x9 y0 σ1 H locs ls cl sl g1 g2 h hB hl
    rw [FL_parts_173] at h
    refine lv_istore (lv' := [(10, .int y0), (0, .ref (ar 0)), (1, .ref b), (2, .int x2), (4, .ref (ar 1)), (5, .ref t0), (6, .ref t1), (7, .int x7), (8, .int x8), (9, .int x9)]) S.1 S.2.1 dL_parts_173 hl (by decide) rfl (fun ls hl => ?_)
    refine lv_iload S.1 S.2.1 dL_parts_175 (lv_at hl 8 rfl) ?_
    refine lv_iconst (v := (2 : Int32)) S.1 S.2.1 dL_parts_177 (by decide) ?_
    refine lv_icmp_ge (tgt := 185) S.1 S.2.1 dL_parts_178 (by decide) (fun c_10 => ?_) (fun c_10 => ?_)
    · replace h := (if_pos c_10).symm.trans h
      refine lv_iload S.1 S.2.1 dL_parts_185 (lv_at hl 9 rfl) ?_
      refine lv_iconst (v := (4 : Int32)) S.1 S.2.1 dL_parts_187 (by decide) ?_
      refine lv_ishr S.1 S.2.1 dL_parts_188 ?_
      refine lv_iload S.1 S.2.1 dL_parts_189 (lv_at hl 8 rfl) ?_
      obtain ⟨r_11, e_11, h⟩ := bnd h
      refine gCallS (v := some (.int r_11)) S hK lKSc hKS hA (kL_below e_11) (cwL_75 S.2.2.2.2 (rm := rmL_below) rfl rfl ⟨(Nat.le_of_ble_eq_true rfl), (Nat.le_of_ble_eq_true rfl)⟩) hB rfl hl.1 rfl (lv_room (Nat.le_of_ble_eq_true rfl)) dL_parts_191 ⟨by dsimp only [rmL_parts]; omega, by dsimp only [rmL_parts]; omega⟩ (fun H locs hB => ?_)
      exact P194 k111 _ _ hb111 hk111 _ _ hS0 _ _ hS1 _ _ _ _ _ _ _ _ _ _ _ _ (by omega) (by omega) h hB (lv_sub hl [1, 2, 3, 4, 5, 6, 7, 8, 9, 0] rfl)
    · replace h := (if_neg c_10).symm.trans h
      refine lv_iconst (v := (0 : Int32)) S.1 S.2.1 dL_parts_181 (by decide) ?_
      refine lv_goto (tgt := 194) S.1 S.2.1 dL_parts_182 (by decide) ?_
      exact P194 k111 _ _ hb111 hk111 _ _ hS0 _ _ hS1 _ _ _ _ _ _ _ _ _ _ _ _ (by omega) (by omega) h hB (lv_sub hl [1, 2, 3, 4, 5, 6, 7, 8, 9, 0] rfl)
  have P111 : ∀  (n : Nat), ∀ (t0 : Nat) (u0 : ClassId) (_ : va_K D vwCl ([(cI, .int), (cJ, .long), (cQ, .array .long)] ++ [(u0, .object "java/lang/String")]) s) (t1 : Nat) (u1 : ClassId) (_ : va_K D vwCl ([(cI, .int), (cJ, .long), (cQ, .array .long)] ++ [(u1, .object "java/lang/String")]) s) (x2 : Int32) (x7 : Int32) (x8 : Int32) (σ1 : LwS) (H : Heap) (locs : List Loc) (ls : Array Slot) (cl sl : Nat), cl + n * 1 + 0 ≤ 10 → sl + n * 5 + 0 ≤ 54 → FL_parts_111 L N xs n x2 x7 x8 σ1 = some (r, σ') → gB D vwCl (va_A (LwW cI cJ cQ ad ra ar σ) s.heap.size) s.heap (LwW cI cJ cQ ad ra ar σ1) [(t0, .inl (u0, 4, .inr (.inr (.inr (.inr (lAt adK)))))), (t1, .inl (u1, 10, .inr (.inr (.inr (.inr (lWo adK))))))] H locs → lv_has ls 18 [(0, .ref (ar 0)), (1, .ref b), (2, .int x2), (4, .ref (ar 1)), (5, .ref t0), (6, .ref t1), (7, .int x7), (8, .int x8)] → W p l e rmL_parts s m args below meth c H locs cl sl (MQ below (gQ D vwCl (LwW cI cJ cQ ad ra ar σ) (LwW cI cJ cQ ad ra ar σ') (some (.int r)) s.heap.size) args s 10 54 (va_A (LwW cI cJ cQ ad ra ar σ) s.heap.size)) (F0 m 111 ls []) := by
    intro n
    induction n with
    | zero => intro t0 u0 hS0 t1 u1 hS1 x2 x7 x8 σ1 H locs ls cl sl g1 g2 h; simp only [FL_parts_111] at h; cases h
    | succ n ih =>
      intro t0 u0 hS0 t1 u1 hS1 x2 x7 x8 σ1 H locs ls cl sl g1 g2 h hB hl
      rw [FL_parts_111] at h
      obtain ⟨kb111, hkb111⟩ : ∃ z, z = (10 - n * 1 - 0) := ⟨_, rfl⟩
      obtain ⟨ks111, hks111⟩ : ∃ z, z = (54 - n * 5 - 0) := ⟨_, rfl⟩
      have hb111 : kb111 ≤ 10 ∧ ks111 ≤ 54 := ⟨by omega, by omega⟩
      have ihc : ∀ (t0 : Nat) (u0 : ClassId) (_ : va_K D vwCl ([(cI, .int), (cJ, .long), (cQ, .array .long)] ++ [(u0, .object "java/lang/String")]) s) (t1 : Nat) (u1 : ClassId) (_ : va_K D vwCl ([(cI, .int), (cJ, .long), (cQ, .array .long)] ++ [(u1, .object "java/lang/String")]) s) (x2 : Int32) (x7 : Int32) (x8 : Int32) (σ1 : LwS) (H : Heap) (locs : List Loc) (ls : Array Slot) (cl sl : Nat), cl ≤ kb111 → sl ≤ ks111 → (FL_parts_111 L N xs n) x2 x7 x8 σ1 = some (r, σ') → gB D vwCl (va_A (LwW cI cJ cQ ad ra ar σ) s.heap.size) s.heap (LwW cI cJ cQ ad ra ar σ1) [(t0, .inl (u0, 4, .inr (.inr (.inr (.inr (lAt adK)))))), (t1, .inl (u1, 10, .inr (.inr (.inr (.inr (lWo adK))))))] H locs → lv_has ls 18 [(0, .ref (ar 0)), (1, .ref b), (2, .int x2), (4, .ref (ar 1)), (5, .ref t0), (6, .ref t1), (7, .int x7), (8, .int x8)] → W p l e rmL_parts s m args below meth c H locs cl sl (MQ below (gQ D vwCl (LwW cI cJ cQ ad ra ar σ) (LwW cI cJ cQ ad ra ar σ') (some (.int r)) s.heap.size) args s 10 54 (va_A (LwW cI cJ cQ ad ra ar σ) s.heap.size)) (F0 m 111 ls []) := fun t0 u0 hS0 t1 u1 hS1 x2 x7 x8 σ1 H locs ls cl sl q1 q2 h hB hl => ih t0 u0 hS0 t1 u1 hS1 x2 x7 x8 σ1 H locs ls cl sl (by omega) (by omega) h hB hl
      refine lv_iload S.1 S.2.1 dL_parts_111 (lv_at hl 7 rfl) ?_
      refine lv_iload S.1 S.2.1 dL_parts_113 (lv_at hl 6 rfl) ?_
      refine lv_icmp_ge (tgt := 499) S.1 S.2.1 dL_parts_115 (by decide) (fun c_6 => ?_) (fun c_6 => ?_)
      · replace h := (if_pos c_6).symm.trans h
        refine lv_iload S.1 S.2.1 dL_parts_499 (lv_at hl 6 rfl) ?_
        replace hB := gDrop hB
        refine W.widen (k := 10) (n := 54) (by omega) (by omega) ?_
        cases h
        exact gRetI S.1 S.2.1 hr hlk hB dL_parts_501
      · replace h := (if_neg c_6).symm.trans h
        refine lv_aload_n S.1 S.2.1 dL_parts_118 rfl (lv_at hl 1 rfl) ?_
        refine lv_iload_n S.1 S.2.1 dL_parts_119 rfl (lv_at hl 2 rfl) ?_
        refine lv_iconst (v := (1 : Int32)) S.1 S.2.1 dL_parts_120 (by decide) ?_
        refine lv_iadd S.1 S.2.1 dL_parts_121 ?_
        refine lv_iload S.1 S.2.1 dL_parts_122 (lv_at hl 7 rfl) ?_
        refine lv_bipush (v := (6 : Int32)) S.1 S.2.1 dL_parts_124 (by decide) ?_
        refine lv_irem S.1 S.2.1 dL_parts_126 (by decide) ?_
        refine lv_iadd S.1 S.2.1 dL_parts_127 ?_
        obtain ⟨r_7, e_7, h⟩ := bnd h
        refine gCallS (v := some (.int r_7)) S hK lKSc hKS hA (kL_cell e_7) (cwL_71 S.2.2.2.2 (rm := rmL_cell) rfl rfl ⟨(Nat.le_of_ble_eq_true rfl), (Nat.le_of_ble_eq_true rfl)⟩) hB rfl hl.1 rfl (lv_room (Nat.le_of_ble_eq_true rfl)) dL_parts_128 ⟨by dsimp only [rmL_parts]; omega, by dsimp only [rmL_parts]; omega⟩ (fun H locs hB => ?_)
        refine lv_iload S.1 S.2.1 dL_parts_131 (lv_at hl 7 rfl) ?_
        refine lv_bipush (v := (6 : Int32)) S.1 S.2.1 dL_parts_133 (by decide) ?_
        refine lv_idiv S.1 S.2.1 dL_parts_135 (by decide) ?_
        refine lv_iconst (v := (5 : Int32)) S.1 S.2.1 dL_parts_136 (by decide) ?_
        refine lv_imul S.1 S.2.1 dL_parts_137 ?_
        refine lv_ishr S.1 S.2.1 dL_parts_138 ?_
        refine lv_iload S.1 S.2.1 dL_parts_139 (lv_at hl 7 rfl) ?_
        refine lv_sipush (v := (911 : Int32)) S.1 S.2.1 dL_parts_141 (by decide) ?_
        refine lv_imul S.1 S.2.1 dL_parts_144 ?_
        refine lv_ixor S.1 S.2.1 dL_parts_145 ?_
        refine lv_istore (lv' := [(9, .int ((r_7 >>> (((x8 / (6 : Int32)) * (5 : Int32)) &&& 31)) ^^^ (x8 * (911 : Int32)))), (0, .ref (ar 0)), (1, .ref b), (2, .int x2), (4, .ref (ar 1)), (5, .ref t0), (6, .ref t1), (7, .int x7), (8, .int x8)]) S.1 S.2.1 dL_parts_146 hl (by decide) rfl (fun ls hl => ?_)
        refine lv_iload S.1 S.2.1 dL_parts_148 (lv_at hl 8 rfl) ?_
        refine lv_iconst (v := (2 : Int32)) S.1 S.2.1 dL_parts_150 (by decide) ?_
        refine lv_icmp_ge (tgt := 166) S.1 S.2.1 dL_parts_151 (by decide) (fun c_8 => ?_) (fun c_8 => ?_)
        · replace h := (if_pos c_8).symm.trans h
          refine lv_iload S.1 S.2.1 dL_parts_166 (lv_at hl 0 rfl) ?_
          refine lv_bipush (v := (14 : Int32)) S.1 S.2.1 dL_parts_168 (by decide) ?_
          obtain ⟨r_9, e_9, h⟩ := bnd h
          refine gCallS (v := some (.int r_9)) S hK lKSc hKS hA (kL_below e_9) (cwL_75 S.2.2.2.2 (rm := rmL_below) rfl rfl ⟨(Nat.le_of_ble_eq_true rfl), (Nat.le_of_ble_eq_true rfl)⟩) hB rfl hl.1 rfl (lv_room (Nat.le_of_ble_eq_true rfl)) dL_parts_170 ⟨by dsimp only [rmL_parts]; omega, by dsimp only [rmL_parts]; omega⟩ (fun H locs hB => ?_)
          exact P173 (FL_parts_111 L N xs n) _ _ hb111 ihc _ _ hS0 _ _ hS1 _ _ _ _ _ _ _ _ _ _ _ (by omega) (by omega) h hB (lv_sub hl [1, 2, 3, 4, 5, 6, 7, 8, 0] rfl)
        · replace h := (if_neg c_8).symm.trans h
          refine lv_bipush (v := (10 : Int32)) S.1 S.2.1 dL_parts_154 (by decide) ?_
          refine lv_iload S.1 S.2.1 dL_parts_156 (lv_at hl 0 rfl) ?_
          refine lv_iconst (v := (4 : Int32)) S.1 S.2.1 dL_parts_158 (by decide) ?_
          obtain ⟨r_54, e_54, h⟩ := bnd h
          refine gCallS (v := some (.int r_54)) S hK lKSc hKS hA (kL_below e_54) (cwL_75 S.2.2.2.2 (rm := rmL_below) rfl rfl ⟨(Nat.le_of_ble_eq_true rfl), (Nat.le_of_ble_eq_true rfl)⟩) hB rfl hl.1 rfl (lv_room (Nat.le_of_ble_eq_true rfl)) dL_parts_159 ⟨by dsimp only [rmL_parts]; omega, by dsimp only [rmL_parts]; omega⟩ (fun H locs hB => ?_)
          refine lv_iadd S.1 S.2.1 dL_parts_162 ?_
          refine lv_goto (tgt := 173) S.1 S.2.1 dL_parts_163 (by decide) ?_
          exact P173 (FL_parts_111 L N xs n) _ _ hb111 ihc _ _ hS0 _ _ hS1 _ _ _ _ _ _ _ _ _ _ _ (by omega) (by omega) h hB (lv_sub hl [1, 2, 3, 4, 5, 6, 7, 8, 0] rfl)
  refine lv_aload_n S.1 S.2.1 dL_parts_0 rfl (lv_at hl 0 rfl) ?_
  refine va_ldcS S.1 S.2.1 S.2.2.2.1 (hKS.1.1.1.1.1.2.1 (RL, 38, "signal x = 0; signal y = 2; ", 71) (List.mem_of_getElem? (i := 71) rfl)) dL_parts_1 ?_
  obtain ⟨_, σ_1, e_1, h⟩ := b2s h
  refine gCallS (v := none) S hK lKSc hKS hA (kL_put (by decide) e_1) (cwL_40 S.2.2.2.2 (rm := rmL_put) rfl rfl ⟨(Nat.le_of_ble_eq_true rfl), (Nat.le_of_ble_eq_true rfl)⟩) hB rfl hl.1 rfl (lv_room (Nat.le_of_ble_eq_true rfl)) dL_parts_3 ⟨by dsimp only [rmL_parts]; omega, by dsimp only [rmL_parts]; omega⟩ (fun H locs hB => ?_)
  refine lv_iconst (v := (4 : Int32)) S.1 S.2.1 dL_parts_6 (by decide) ?_
  refine lXnews (N := 4) S hK hB hA hKS.1.1.1.1.2 (S.2.2.2.2 _ (List.mem_cons_of_mem _ wl_L_10)) (by decide) rfl (by decide) ⟨by dsimp only [rmL_parts]; omega, by dsimp only [rmL_parts]; omega⟩ dL_parts_7 (fun q_2 cA_2 H hS_2 hB => ?_)
  replace hB : gB D vwCl _ _ (LwW cI cJ cQ ad ra ar σ_1) [(q_2, .inl (cA_2, 4, .inr (.inr (.inr (.inr (fun _ => none))))))] _ _ := hB
  refine lv_dup S.1 S.2.1 dL_parts_10 rfl ?_
  refine lv_iconst (v := (0 : Int32)) S.1 S.2.1 dL_parts_11 (by decide) ?_
  refine va_ldcS S.1 S.2.1 S.2.2.2.1 (hKS.1.1.1.1.1.2.1 (RL, 43, "x > y", 72) (List.mem_of_getElem? (i := 72) rfl)) dL_parts_12 ?_
  refine lXasts (X' := [(q_2, .inl (cA_2, 4, .inr (.inr (.inr (.inr (va_up (fun _ => none) (0 : Int32).toNatClampNeg (some (adK 72))))))))]) (t0 := 3) S hS_2 hB 0 rfl rfl (va_AnyS (sRecv hKS.1.1.1.1.1.1 (by decide) hB.2.2)) (by unfold vp_in; decide) rfl dL_parts_14 (fun H locs hB => ?_)
  refine lv_dup S.1 S.2.1 dL_parts_15 rfl ?_
  refine lv_iconst (v := (1 : Int32)) S.1 S.2.1 dL_parts_16 (by decide) ?_
  refine va_ldcS S.1 S.2.1 S.2.2.2.1 (hKS.1.1.1.1.1.2.1 (RL, 45, "x = 1", 73) (List.mem_of_getElem? (i := 73) rfl)) dL_parts_17 ?_
  refine lXasts (X' := [(q_2, .inl (cA_2, 4, .inr (.inr (.inr (.inr (va_up (va_up (fun _ => none) (0 : Int32).toNatClampNeg (some (adK 72))) (1 : Int32).toNatClampNeg (some (adK 73))))))))]) (t0 := 3) S hS_2 hB 0 rfl rfl (va_AnyS (sRecv hKS.1.1.1.1.1.1 (by decide) hB.2.2)) (by unfold vp_in; decide) rfl dL_parts_19 (fun H locs hB => ?_)
  refine lv_dup S.1 S.2.1 dL_parts_20 rfl ?_
  refine lv_iconst (v := (2 : Int32)) S.1 S.2.1 dL_parts_21 (by decide) ?_
  refine va_ldcS S.1 S.2.1 S.2.2.2.1 (hKS.1.1.1.1.1.2.1 (RL, 47, "y <= 2", 74) (List.mem_of_getElem? (i := 74) rfl)) dL_parts_22 ?_
  refine lXasts (X' := [(q_2, .inl (cA_2, 4, .inr (.inr (.inr (.inr (va_up (va_up (va_up (fun _ => none) (0 : Int32).toNatClampNeg (some (adK 72))) (1 : Int32).toNatClampNeg (some (adK 73))) (2 : Int32).toNatClampNeg (some (adK 74))))))))]) (t0 := 3) S hS_2 hB 0 rfl rfl (va_AnyS (sRecv hKS.1.1.1.1.1.1 (by decide) hB.2.2)) (by unfold vp_in; decide) rfl dL_parts_24 (fun H locs hB => ?_)
  refine lv_dup S.1 S.2.1 dL_parts_25 rfl ?_
  refine lv_iconst (v := (3 : Int32)) S.1 S.2.1 dL_parts_26 (by decide) ?_
  refine va_ldcS S.1 S.2.1 S.2.2.2.1 (hKS.1.1.1.1.1.2.1 (RL, 49, "x + y <> 3", 75) (List.mem_of_getElem? (i := 75) rfl)) dL_parts_27 ?_
  refine lXasts (X' := [(q_2, .inl (cA_2, 4, .inr (.inr (.inr (.inr (va_up (va_up (va_up (va_up (fun _ => none) (0 : Int32).toNatClampNeg (some (adK 72))) (1 : Int32).toNatClampNeg (some (adK 73))) (2 : Int32).toNatClampNeg (some (adK 74))) (3 : Int32).toNatClampNeg (some (adK 75))))))))]) (t0 := 3) S hS_2 hB 0 rfl rfl (va_AnyS (sRecv hKS.1.1.1.1.1.1 (by decide) hB.2.2)) (by unfold vp_in; decide) rfl dL_parts_29 (fun H locs hB => ?_)
  replace hB : gB D vwCl _ _ (LwW cI cJ cQ ad ra ar σ_1) [(q_2, .inl (cA_2, 4, .inr (.inr (.inr (.inr (lAt adK))))))] _ _ := hB
  refine lv_astore (lv' := [(5, .ref q_2), (0, .ref (ar 0)), (1, .ref b), (2, .int p2), (3, .int p3), (4, .ref (ar 1))]) S.1 S.2.1 dL_parts_30 hl (by decide) rfl (fun ls hl => ?_)
  refine lv_bipush (v := (10 : Int32)) S.1 S.2.1 dL_parts_32 (by decide) ?_
  refine lXnews (N := 10) S hK hB hA hKS.1.1.1.1.2 (S.2.2.2.2 _ (List.mem_cons_of_mem _ wl_L_10)) (by decide) rfl (by decide) ⟨by dsimp only [rmL_parts]; omega, by dsimp only [rmL_parts]; omega⟩ dL_parts_34 (fun q_3 cA_3 H hS_3 hB => ?_)
  replace hB : gB D vwCl _ _ (LwW cI cJ cQ ad ra ar σ_1) [(q_2, .inl (cA_2, 4, .inr (.inr (.inr (.inr (lAt adK)))))), (q_3, .inl (cA_3, 10, .inr (.inr (.inr (.inr (fun _ => none))))))] _ _ := hB
  refine lv_dup S.1 S.2.1 dL_parts_37 rfl ?_
  refine lv_iconst (v := (0 : Int32)) S.1 S.2.1 dL_parts_38 (by decide) ?_
  refine va_ldcS S.1 S.2.1 S.2.2.2.1 (hKS.1.1.1.1.1.2.1 (RL, 51, "not ", 76) (List.mem_of_getElem? (i := 76) rfl)) dL_parts_39 ?_
  refine lXasts (X' := [(q_2, .inl (cA_2, 4, .inr (.inr (.inr (.inr (lAt adK)))))), (q_3, .inl (cA_3, 10, .inr (.inr (.inr (.inr (va_up (fun _ => none) (0 : Int32).toNatClampNeg (some (adK 76))))))))]) (t0 := 3) S hS_3 hB 1 rfl rfl (va_AnyS (sRecv hKS.1.1.1.1.1.1 (by decide) hB.2.2)) (by unfold vp_in; decide) rfl dL_parts_41 (fun H locs hB => ?_)
  refine lv_dup S.1 S.2.1 dL_parts_42 rfl ?_
  refine lv_iconst (v := (1 : Int32)) S.1 S.2.1 dL_parts_43 (by decide) ?_
  refine va_ldcS S.1 S.2.1 S.2.2.2.1 (hKS.1.1.1.1.1.2.1 (RL, 53, "prev ", 77) (List.mem_of_getElem? (i := 77) rfl)) dL_parts_44 ?_
  refine lXasts (X' := [(q_2, .inl (cA_2, 4, .inr (.inr (.inr (.inr (lAt adK)))))), (q_3, .inl (cA_3, 10, .inr (.inr (.inr (.inr (va_up (va_up (fun _ => none) (0 : Int32).toNatClampNeg (some (adK 76))) (1 : Int32).toNatClampNeg (some (adK 77))))))))]) (t0 := 3) S hS_3 hB 1 rfl rfl (va_AnyS (sRecv hKS.1.1.1.1.1.1 (by decide) hB.2.2)) (by unfold vp_in; decide) rfl dL_parts_46 (fun H locs hB => ?_)
  refine lv_dup S.1 S.2.1 dL_parts_47 rfl ?_
  refine lv_iconst (v := (2 : Int32)) S.1 S.2.1 dL_parts_48 (by decide) ?_
  refine va_ldcS S.1 S.2.1 S.2.2.2.1 (hKS.1.1.1.1.1.2.1 (RL, 55, "rise ", 78) (List.mem_of_getElem? (i := 78) rfl)) dL_parts_49 ?_
  refine lXasts (X' := [(q_2, .inl (cA_2, 4, .inr (.inr (.inr (.inr (lAt adK)))))), (q_3, .inl (cA_3, 10, .inr (.inr (.inr (.inr (va_up (va_up (va_up (fun _ => none) (0 : Int32).toNatClampNeg (some (adK 76))) (1 : Int32).toNatClampNeg (some (adK 77))) (2 : Int32).toNatClampNeg (some (adK 78))))))))]) (t0 := 3) S hS_3 hB 1 rfl rfl (va_AnyS (sRecv hKS.1.1.1.1.1.1 (by decide) hB.2.2)) (by unfold vp_in; decide) rfl dL_parts_51 (fun H locs hB => ?_)
  refine lv_dup S.1 S.2.1 dL_parts_52 rfl ?_
  refine lv_iconst (v := (3 : Int32)) S.1 S.2.1 dL_parts_53 (by decide) ?_
  refine va_ldcS S.1 S.2.1 S.2.2.2.1 (hKS.1.1.1.1.1.2.1 (RL, 57, "fall ", 79) (List.mem_of_getElem? (i := 79) rfl)) dL_parts_54 ?_
  refine lXasts (X' := [(q_2, .inl (cA_2, 4, .inr (.inr (.inr (.inr (lAt adK)))))), (q_3, .inl (cA_3, 10, .inr (.inr (.inr (.inr (va_up (va_up (va_up (va_up (fun _ => none) (0 : Int32).toNatClampNeg (some (adK 76))) (1 : Int32).toNatClampNeg (some (adK 77))) (2 : Int32).toNatClampNeg (some (adK 78))) (3 : Int32).toNatClampNeg (some (adK 79))))))))]) (t0 := 3) S hS_3 hB 1 rfl rfl (va_AnyS (sRecv hKS.1.1.1.1.1.1 (by decide) hB.2.2)) (by unfold vp_in; decide) rfl dL_parts_56 (fun H locs hB => ?_)
  refine lv_dup S.1 S.2.1 dL_parts_57 rfl ?_
  refine lv_iconst (v := (4 : Int32)) S.1 S.2.1 dL_parts_58 (by decide) ?_
  refine va_ldcS S.1 S.2.1 S.2.2.2.1 (hKS.1.1.1.1.1.2.1 (RL, 59, "once ", 80) (List.mem_of_getElem? (i := 80) rfl)) dL_parts_59 ?_
  refine lXasts (X' := [(q_2, .inl (cA_2, 4, .inr (.inr (.inr (.inr (lAt adK)))))), (q_3, .inl (cA_3, 10, .inr (.inr (.inr (.inr (va_up (va_up (va_up (va_up (va_up (fun _ => none) (0 : Int32).toNatClampNeg (some (adK 76))) (1 : Int32).toNatClampNeg (some (adK 77))) (2 : Int32).toNatClampNeg (some (adK 78))) (3 : Int32).toNatClampNeg (some (adK 79))) (4 : Int32).toNatClampNeg (some (adK 80))))))))]) (t0 := 3) S hS_3 hB 1 rfl rfl (va_AnyS (sRecv hKS.1.1.1.1.1.1 (by decide) hB.2.2)) (by unfold vp_in; decide) rfl dL_parts_61 (fun H locs hB => ?_)
  refine lv_dup S.1 S.2.1 dL_parts_62 rfl ?_
  refine lv_iconst (v := (5 : Int32)) S.1 S.2.1 dL_parts_63 (by decide) ?_
  refine va_ldcS S.1 S.2.1 S.2.2.2.1 (hKS.1.1.1.1.1.2.1 (RL, 61, "always ", 81) (List.mem_of_getElem? (i := 81) rfl)) dL_parts_64 ?_
  refine lXasts (X' := [(q_2, .inl (cA_2, 4, .inr (.inr (.inr (.inr (lAt adK)))))), (q_3, .inl (cA_3, 10, .inr (.inr (.inr (.inr (va_up (va_up (va_up (va_up (va_up (va_up (fun _ => none) (0 : Int32).toNatClampNeg (some (adK 76))) (1 : Int32).toNatClampNeg (some (adK 77))) (2 : Int32).toNatClampNeg (some (adK 78))) (3 : Int32).toNatClampNeg (some (adK 79))) (4 : Int32).toNatClampNeg (some (adK 80))) (5 : Int32).toNatClampNeg (some (adK 81))))))))]) (t0 := 3) S hS_3 hB 1 rfl rfl (va_AnyS (sRecv hKS.1.1.1.1.1.1 (by decide) hB.2.2)) (by unfold vp_in; decide) rfl dL_parts_66 (fun H locs hB => ?_)
  refine lv_dup S.1 S.2.1 dL_parts_67 rfl ?_
  refine lv_bipush (v := (6 : Int32)) S.1 S.2.1 dL_parts_68 (by decide) ?_
  refine va_ldcS S.1 S.2.1 S.2.2.2.1 (hKS.1.1.1.1.1.2.1 (RL, 63, " since ", 82) (List.mem_of_getElem? (i := 82) rfl)) dL_parts_70 ?_
  refine lXasts (X' := [(q_2, .inl (cA_2, 4, .inr (.inr (.inr (.inr (lAt adK)))))), (q_3, .inl (cA_3, 10, .inr (.inr (.inr (.inr (va_up (va_up (va_up (va_up (va_up (va_up (va_up (fun _ => none) (0 : Int32).toNatClampNeg (some (adK 76))) (1 : Int32).toNatClampNeg (some (adK 77))) (2 : Int32).toNatClampNeg (some (adK 78))) (3 : Int32).toNatClampNeg (some (adK 79))) (4 : Int32).toNatClampNeg (some (adK 80))) (5 : Int32).toNatClampNeg (some (adK 81))) (6 : Int32).toNatClampNeg (some (adK 82))))))))]) (t0 := 3) S hS_3 hB 1 rfl rfl (va_AnyS (sRecv hKS.1.1.1.1.1.1 (by decide) hB.2.2)) (by unfold vp_in; decide) rfl dL_parts_72 (fun H locs hB => ?_)
  refine lv_dup S.1 S.2.1 dL_parts_73 rfl ?_
  refine lv_bipush (v := (7 : Int32)) S.1 S.2.1 dL_parts_74 (by decide) ?_
  refine va_ldcS S.1 S.2.1 S.2.2.2.1 (hKS.1.1.1.1.1.2.1 (RL, 65, " and ", 83) (List.mem_of_getElem? (i := 83) rfl)) dL_parts_76 ?_
  refine lXasts (X' := [(q_2, .inl (cA_2, 4, .inr (.inr (.inr (.inr (lAt adK)))))), (q_3, .inl (cA_3, 10, .inr (.inr (.inr (.inr (va_up (va_up (va_up (va_up (va_up (va_up (va_up (va_up (fun _ => none) (0 : Int32).toNatClampNeg (some (adK 76))) (1 : Int32).toNatClampNeg (some (adK 77))) (2 : Int32).toNatClampNeg (some (adK 78))) (3 : Int32).toNatClampNeg (some (adK 79))) (4 : Int32).toNatClampNeg (some (adK 80))) (5 : Int32).toNatClampNeg (some (adK 81))) (6 : Int32).toNatClampNeg (some (adK 82))) (7 : Int32).toNatClampNeg (some (adK 83))))))))]) (t0 := 3) S hS_3 hB 1 rfl rfl (va_AnyS (sRecv hKS.1.1.1.1.1.1 (by decide) hB.2.2)) (by unfold vp_in; decide) rfl dL_parts_78 (fun H locs hB => ?_)
  refine lv_dup S.1 S.2.1 dL_parts_79 rfl ?_
  refine lv_bipush (v := (8 : Int32)) S.1 S.2.1 dL_parts_80 (by decide) ?_
  refine va_ldcS S.1 S.2.1 S.2.2.2.1 (hKS.1.1.1.1.1.2.1 (RL, 67, " or ", 84) (List.mem_of_getElem? (i := 84) rfl)) dL_parts_82 ?_
  refine lXasts (X' := [(q_2, .inl (cA_2, 4, .inr (.inr (.inr (.inr (lAt adK)))))), (q_3, .inl (cA_3, 10, .inr (.inr (.inr (.inr (va_up (va_up (va_up (va_up (va_up (va_up (va_up (va_up (va_up (fun _ => none) (0 : Int32).toNatClampNeg (some (adK 76))) (1 : Int32).toNatClampNeg (some (adK 77))) (2 : Int32).toNatClampNeg (some (adK 78))) (3 : Int32).toNatClampNeg (some (adK 79))) (4 : Int32).toNatClampNeg (some (adK 80))) (5 : Int32).toNatClampNeg (some (adK 81))) (6 : Int32).toNatClampNeg (some (adK 82))) (7 : Int32).toNatClampNeg (some (adK 83))) (8 : Int32).toNatClampNeg (some (adK 84))))))))]) (t0 := 3) S hS_3 hB 1 rfl rfl (va_AnyS (sRecv hKS.1.1.1.1.1.1 (by decide) hB.2.2)) (by unfold vp_in; decide) rfl dL_parts_84 (fun H locs hB => ?_)
  refine lv_dup S.1 S.2.1 dL_parts_85 rfl ?_
  refine lv_bipush (v := (9 : Int32)) S.1 S.2.1 dL_parts_86 (by decide) ?_
  refine va_ldcS S.1 S.2.1 S.2.2.2.1 (hKS.1.1.1.1.1.2.1 (RL, 69, " implies ", 85) (List.mem_of_getElem? (i := 85) rfl)) dL_parts_88 ?_
  refine lXasts (X' := [(q_2, .inl (cA_2, 4, .inr (.inr (.inr (.inr (lAt adK)))))), (q_3, .inl (cA_3, 10, .inr (.inr (.inr (.inr (va_up (va_up (va_up (va_up (va_up (va_up (va_up (va_up (va_up (va_up (fun _ => none) (0 : Int32).toNatClampNeg (some (adK 76))) (1 : Int32).toNatClampNeg (some (adK 77))) (2 : Int32).toNatClampNeg (some (adK 78))) (3 : Int32).toNatClampNeg (some (adK 79))) (4 : Int32).toNatClampNeg (some (adK 80))) (5 : Int32).toNatClampNeg (some (adK 81))) (6 : Int32).toNatClampNeg (some (adK 82))) (7 : Int32).toNatClampNeg (some (adK 83))) (8 : Int32).toNatClampNeg (some (adK 84))) (9 : Int32).toNatClampNeg (some (adK 85))))))))]) (t0 := 3) S hS_3 hB 1 rfl rfl (va_AnyS (sRecv hKS.1.1.1.1.1.1 (by decide) hB.2.2)) (by unfold vp_in; decide) rfl dL_parts_90 (fun H locs hB => ?_)
  replace hB : gB D vwCl _ _ (LwW cI cJ cQ ad ra ar σ_1) [(q_2, .inl (cA_2, 4, .inr (.inr (.inr (.inr (lAt adK)))))), (q_3, .inl (cA_3, 10, .inr (.inr (.inr (.inr (lWo adK))))))] _ _ := hB
  refine lv_astore (lv' := [(6, .ref q_3), (5, .ref q_2), (0, .ref (ar 0)), (1, .ref b), (2, .int p2), (3, .int p3), (4, .ref (ar 1))]) S.1 S.2.1 dL_parts_91 hl (by decide) rfl (fun ls hl => ?_)
  refine lv_iconst (v := (4 : Int32)) S.1 S.2.1 dL_parts_93 (by decide) ?_
  refine lv_aload_n S.1 S.2.1 dL_parts_94 rfl (lv_at hl 3 rfl) ?_
  refine lv_iload_n S.1 S.2.1 dL_parts_95 rfl (lv_at hl 4 rfl) ?_
  obtain ⟨r_4, e_4, h⟩ := bnd h
  refine gCallS (v := some (.int r_4)) S hK lKSc hKS hA (kL_cell e_4) (cwL_71 S.2.2.2.2 (rm := rmL_cell) rfl rfl ⟨(Nat.le_of_ble_eq_true rfl), (Nat.le_of_ble_eq_true rfl)⟩) hB rfl hl.1 rfl (lv_room (Nat.le_of_ble_eq_true rfl)) dL_parts_96 ⟨by dsimp only [rmL_parts]; omega, by dsimp only [rmL_parts]; omega⟩ (fun H locs hB => ?_)
  refine lv_iload_n S.1 S.2.1 dL_parts_99 rfl (lv_at hl 5 rfl) ?_
  refine lv_iconst (v := (3 : Int32)) S.1 S.2.1 dL_parts_100 (by decide) ?_
  refine lv_isub S.1 S.2.1 dL_parts_101 ?_
  obtain ⟨r_5, e_5, h⟩ := bnd h
  refine gCallS (v := some (.int r_5)) S hK lKSc hKS hA (kL_below e_5) (cwL_75 S.2.2.2.2 (rm := rmL_below) rfl rfl ⟨(Nat.le_of_ble_eq_true rfl), (Nat.le_of_ble_eq_true rfl)⟩) hB rfl hl.1 rfl (lv_room (Nat.le_of_ble_eq_true rfl)) dL_parts_102 ⟨by dsimp only [rmL_parts]; omega, by dsimp only [rmL_parts]; omega⟩ (fun H locs hB => ?_)
  refine lv_iadd S.1 S.2.1 dL_parts_105 ?_
  refine lv_istore (lv' := [(7, .int ((4 : Int32) + r_5)), (6, .ref q_3), (5, .ref q_2), (0, .ref (ar 0)), (1, .ref b), (2, .int p2), (3, .int p3), (4, .ref (ar 1))]) S.1 S.2.1 dL_parts_106 hl (by decide) rfl (fun ls hl => ?_)
  refine lv_iconst (v := (0 : Int32)) S.1 S.2.1 dL_parts_108 (by decide) ?_
  refine lv_istore (lv' := [(8, .int (0 : Int32)), (7, .int ((4 : Int32) + r_5)), (6, .ref q_3), (5, .ref q_2), (0, .ref (ar 0)), (1, .ref b), (2, .int p2), (3, .int p3), (4, .ref (ar 1))]) S.1 S.2.1 dL_parts_109 hl (by decide) rfl (fun ls hl => ?_)
  exact P111  8 _ _ hS_2 _ _ hS_3 _ _ _ _ _ _ _ _ _ (by omega) (by omega) h hB (lv_sub hl [4, 5, 6, 8, 3, 2, 1, 0] rfl)
