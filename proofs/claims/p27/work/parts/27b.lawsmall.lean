-- the law's own small methods
/-- the two rows of texts that parts makes -/
def lAt (adK : Nat → Nat) : Nat → Option Nat := va_up (va_up (va_up (va_up (fun _ => none) (0 : Int32).toNatClampNeg (some (adK 72))) (1 : Int32).toNatClampNeg (some (adK 73))) (2 : Int32).toNatClampNeg (some (adK 74))) (3 : Int32).toNatClampNeg (some (adK 75))
def lWo (adK : Nat → Nat) : Nat → Option Nat := va_up (va_up (va_up (va_up (va_up (va_up (va_up (va_up (va_up (va_up (fun _ => none) (0 : Int32).toNatClampNeg (some (adK 76))) (1 : Int32).toNatClampNeg (some (adK 77))) (2 : Int32).toNatClampNeg (some (adK 78))) (3 : Int32).toNatClampNeg (some (adK 79))) (4 : Int32).toNatClampNeg (some (adK 80))) (5 : Int32).toNatClampNeg (some (adK 81))) (6 : Int32).toNatClampNeg (some (adK 82))) (7 : Int32).toNatClampNeg (some (adK 83))) (8 : Int32).toNatClampNeg (some (adK 84))) (9 : Int32).toNatClampNeg (some (adK 85))
theorem lAt_get {adK : Nat → Nat} {k : Nat} (h : k < 4) : lAt adK k = some (adK (72 + k)) := by
  match k, h with
  | 0, _ => rfl
  | 1, _ => rfl
  | 2, _ => rfl
  | 3, _ => rfl
theorem lWo_get {adK : Nat → Nat} {k : Nat} (h : k < 10) : lWo adK k = some (adK (76 + k)) := by
  match k, h with
  | 0, _ => rfl
  | 1, _ => rfl
  | 2, _ => rfl
  | 3, _ => rfl
  | 4, _ => rfl
  | 5, _ => rfl
  | 6, _ => rfl
  | 7, _ => rfl
  | 8, _ => rfl
  | 9, _ => rfl
def FL_below (p0 : Int32) (p1 : Int32) : Option Int32 :=
  if (p1 = 0) then none else
  some ((p0 &&& (2147483647 : Int32)) - (p0 &&& (2147483647 : Int32)) / p1 * p1)
abbrev rmL_below : Room := { frames := 0, cells := 0, slots := 0, locals := 0 }
set_option maxRecDepth 100000 in
set_option maxHeartbeats 8000000 in
theorem kL_below {l : Launch} {D : va_G} {cI cJ cQ : ClassId} {adK adV tK : Nat → Nat} {b N : Nat} {xs : Nat → Int32} {p0 : Int32} {p1 : Int32} {W0 : va_W} {r : Int32} (h : FL_below p0 p1 = some r) : gMet l yL_below qL_below rmL_below 0 0 D vwCl [(cI, .int), (cJ, .long), (cQ, .array .long)] (lKS adK adV tK b N xs) [.int p0, .int p1] W0 W0 (some (.int r)) := by
  refine gMet.of (cc := cL_below) (maxL := 2) (ret := (some .int)) (by decide) rfl (Nat.le_of_ble_eq_true rfl) ?_
  intro p e s m args below meth c S hr hlk hnm hK hKS hA hB ls hl
  have hl : lv_has ls 2 [(0, .int p0), (1, .int p1)] := hl
  replace S : CallFix p m c cL_below 2 s args (_ :: wsL_law) RL := S
  rw [FL_below] at h
  refine lv_iload_n S.1 S.2.1 dL_below_0 rfl (lv_at hl 0 rfl) ?_
  refine lv_ldc (v := 2147483647) S.1 S.2.1 S.2.2.2.1 (S.2.2.2.2 _ (List.mem_cons_of_mem _ wc_L_7)) dL_below_1 ?_
  refine lv_iand S.1 S.2.1 dL_below_3 ?_
  refine lv_iload_n S.1 S.2.1 dL_below_4 rfl (lv_at hl 1 rfl) ?_
  obtain ⟨z_1, h⟩ := gd h
  refine lv_irem S.1 S.2.1 dL_below_5 z_1 ?_
  cases h
  exact gRetI S.1 S.2.1 hr hlk hB dL_below_6
def FL_cell (N : Nat) (xs : Nat → Int32) (p1 : Int32) : Option Int32 :=
  if (Int32.ofNat N) ≤ p1 then
    some ((790386105 : Int32) * (p1 + (3 : Int32)))
  else
    if (p1 < 0 ∨ N ≤ p1.toNatClampNeg) then none else
    some (xs p1.toNatClampNeg)
abbrev rmL_cell : Room := { frames := 0, cells := 0, slots := 0, locals := 0 }
set_option maxRecDepth 100000 in
set_option maxHeartbeats 8000000 in
theorem kL_cell {l : Launch} {D : va_G} {cI cJ cQ : ClassId} {adK adV tK : Nat → Nat} {b N : Nat} {xs : Nat → Int32} {p1 : Int32} {W0 : va_W} {r : Int32} (h : FL_cell N xs p1 = some r) : gMet l yL_cell qL_cell rmL_cell 0 0 D vwCl [(cI, .int), (cJ, .long), (cQ, .array .long)] (lKS adK adV tK b N xs) [.ref b, .int p1] W0 W0 (some (.int r)) := by
  refine gMet.of (cc := cL_cell) (maxL := 2) (ret := (some .int)) (by decide) rfl (Nat.le_of_ble_eq_true rfl) ?_
  intro p e s m args below meth c S hr hlk hnm hK hKS hA hB ls hl
  have hl : lv_has ls 2 [(0, .ref b), (1, .int p1)] := hl
  replace S : CallFix p m c cL_cell 2 s args (_ :: wsL_law) RL := S
  rw [FL_cell] at h
  refine lv_iload_n S.1 S.2.1 dL_cell_0 rfl (lv_at hl 1 rfl) ?_
  refine lv_aload_n S.1 S.2.1 dL_cell_1 rfl (lv_at hl 0 rfl) ?_
  refine va_slen S.1 S.2.1 hKS.2.2 hKS.2.2.lt hKS.2.1 hB.2.2 dL_cell_2 ?_
  refine lv_icmp_ge (tgt := 12) S.1 S.2.1 dL_cell_3 (by decide) (fun c_1 => ?_) (fun c_1 => ?_)
  · replace h := (if_pos c_1).symm.trans h
    refine lv_ldc (v := 790386105) S.1 S.2.1 S.2.2.2.1 (S.2.2.2.2 _ (List.mem_cons_of_mem _ wc_L_8)) dL_cell_12 ?_
    refine lv_iload_n S.1 S.2.1 dL_cell_14 rfl (lv_at hl 1 rfl) ?_
    refine lv_iconst (v := (3 : Int32)) S.1 S.2.1 dL_cell_15 (by decide) ?_
    refine lv_iadd S.1 S.2.1 dL_cell_16 ?_
    refine lv_imul S.1 S.2.1 dL_cell_17 ?_
    cases h
    exact gRetI S.1 S.2.1 hr hlk hB dL_cell_18
  · replace h := (if_neg c_1).symm.trans h
    refine lv_aload_n S.1 S.2.1 dL_cell_6 rfl (lv_at hl 0 rfl) ?_
    refine lv_iload_n S.1 S.2.1 dL_cell_7 rfl (lv_at hl 1 rfl) ?_
    obtain ⟨b_2, h⟩ := gd h
    refine va_sld S.1 S.2.1 hKS.2.2 hKS.2.2.lt hKS.2.1 hB.2.2 b_2 dL_cell_8 ?_
    refine lv_goto (tgt := 18) S.1 S.2.1 dL_cell_9 (by decide) ?_
    cases h
    exact gRetI S.1 S.2.1 hr hlk hB dL_cell_18
def FL_put_2 (L : Nat) (w : Nat)  : Nat → Int32 → LwS → Option (Unit × LwS)
  | 0, _, _ => none
  | n+1, x2, σ1 =>
    (FJ0_length_8abf5 w).bind fun r_1 =>
    if r_1 ≤ x2 then
      if ((0 : Int32) < 0 ∨ 1700 ≤ (0 : Int32).toNatClampNeg) then none else
      (FJ0_length_8abf5 w).bind fun r_4 =>
      if ((0 : Int32) < 0 ∨ 1700 ≤ (0 : Int32).toNatClampNeg) then none else
      some ((), (rR σ1 0 (upd (σ1.2 0) (0 : Int32).toNatClampNeg ((σ1.2 0 (0 : Int32).toNatClampNeg) + r_4))))
    else
      if ((0 : Int32) < 0 ∨ 1700 ≤ (0 : Int32).toNatClampNeg) then none else
      (FJ0_charAt_5068e w x2).bind fun r_7 =>
      if ((((1 : Int32) + (σ1.2 0 (0 : Int32).toNatClampNeg)) + x2) < 0 ∨ 1700 ≤ (((1 : Int32) + (σ1.2 0 (0 : Int32).toNatClampNeg)) + x2).toNatClampNeg) then none else
      (FL_put_2 L w n) (x2 + (1 : Int32)) (rR σ1 0 (upd (σ1.2 0) (((1 : Int32) + (σ1.2 0 (0 : Int32).toNatClampNeg)) + x2).toNatClampNeg r_7))
def FL_put (L : Nat) (w : Nat) (σ : LwS) : Option (Unit × LwS) :=
  FL_put_2 L w L (0 : Int32) σ
abbrev rmL_put : Room := { frames := 4, cells := 0, slots := 0, locals := 85 }
set_option maxRecDepth 100000 in
set_option maxHeartbeats 8000000 in
theorem kL_put {l : Launch} {D : va_G} {cI cJ cQ : ClassId} {ad : Nat → Nat} {ra : Nat → Nat → Nat} {ar : Nat → Nat} {adK adV tK : Nat → Nat} {b N : Nat} {xs : Nat → Int32} {L : Nat} {w : Nat} (hw : wS w) {σ σ' : LwS} (h : FL_put L w σ = some ((), σ')) : gMet l yL_put qL_put rmL_put 0 0 D vwCl [(cI, .int), (cJ, .long), (cQ, .array .long)] (lKS adK adV tK b N xs) [.ref (ar 0), .ref (adK w)] (LwW cI cJ cQ ad ra ar σ) (LwW cI cJ cQ ad ra ar σ') none := by
  refine gMet.of (cc := cL_put) (maxL := 3) (ret := none) (by decide) rfl (Nat.le_of_ble_eq_true rfl) ?_
  intro p e s m args below meth c S hr hlk hnm hK hKS hA hB ls hl
  have hl : lv_has ls 3 [(0, .ref (ar 0)), (1, .ref (adK w))] := hl
  replace S : CallFix p m c cL_put 3 s args (_ :: wsL_law) RL := S
  rw [FL_put] at h
  have P2 : ∀  (n : Nat), ∀ (x2 : Int32) (σ1 : LwS) (H : Heap) (locs : List Loc) (ls : Array Slot) (cl sl : Nat), cl + 0 ≤ 0 → sl + 0 ≤ 0 → FL_put_2 L w n x2 σ1 = some ((), σ') → gB D vwCl (va_A (LwW cI cJ cQ ad ra ar σ) s.heap.size) s.heap (LwW cI cJ cQ ad ra ar σ1) [] H locs → lv_has ls 3 [(0, .ref (ar 0)), (1, .ref (adK w)), (2, .int x2)] → W p l e rmL_put s m args below meth c H locs cl sl (MQ below (gQ D vwCl (LwW cI cJ cQ ad ra ar σ) (LwW cI cJ cQ ad ra ar σ') none s.heap.size) args s 0 0 (va_A (LwW cI cJ cQ ad ra ar σ) s.heap.size)) (F0 m 2 ls []) := by
    intro n
    induction n with
    | zero => intro x2 σ1 H locs ls cl sl g1 g2 h; simp only [FL_put_2] at h; cases h
    | succ n ih =>
      intro x2 σ1 H locs ls cl sl g1 g2 h hB hl
      rw [FL_put_2] at h
      obtain ⟨kb2, hkb2⟩ : ∃ z, z = (0 - 0) := ⟨_, rfl⟩
      obtain ⟨ks2, hks2⟩ : ∃ z, z = (0 - 0) := ⟨_, rfl⟩
      have hb2 : kb2 ≤ 0 ∧ ks2 ≤ 0 := ⟨by omega, by omega⟩
      have ihc : ∀ (x2 : Int32) (σ1 : LwS) (H : Heap) (locs : List Loc) (ls : Array Slot) (cl sl : Nat), cl ≤ kb2 → sl ≤ ks2 → (FL_put_2 L w n) x2 σ1 = some ((), σ') → gB D vwCl (va_A (LwW cI cJ cQ ad ra ar σ) s.heap.size) s.heap (LwW cI cJ cQ ad ra ar σ1) [] H locs → lv_has ls 3 [(0, .ref (ar 0)), (1, .ref (adK w)), (2, .int x2)] → W p l e rmL_put s m args below meth c H locs cl sl (MQ below (gQ D vwCl (LwW cI cJ cQ ad ra ar σ) (LwW cI cJ cQ ad ra ar σ') none s.heap.size) args s 0 0 (va_A (LwW cI cJ cQ ad ra ar σ) s.heap.size)) (F0 m 2 ls []) := fun x2 σ1 H locs ls cl sl q1 q2 h hB hl => ih x2 σ1 H locs ls cl sl (by omega) (by omega) h hB hl
      refine lv_iload_n S.1 S.2.1 dL_put_2 rfl (lv_at hl 2 rfl) ?_
      refine lv_aload_n S.1 S.2.1 dL_put_3 rfl (lv_at hl 1 rfl) ?_
      obtain ⟨r_1, e_1, h⟩ := bnd h
      refine mCallTI S (hK.sub (tys' := [(cI, .int), (cJ, .long)]) [0, 1] rfl) lKSc hKS hA (gMet.weak (kJ0_length_8abf5 hw e_1) (fun _ _ q => q.1.1.1.1.1)) (cwL_9 S.2.2.2.2 (rm := rmJ0_length_8abf5) rfl rfl ⟨(Nat.le_of_ble_eq_true rfl), (Nat.le_of_ble_eq_true rfl)⟩) (sRecv hKS.1.1.1.1.1.1 hw hB.2.2) hB rfl hl.1 rfl (lv_room (Nat.le_of_ble_eq_true rfl)) dL_put_4 ⟨by dsimp only [rmL_put]; omega, by dsimp only [rmL_put]; omega⟩ (fun H locs hB => ?_)
      refine lv_icmp_ge (tgt := 30) S.1 S.2.1 dL_put_7 (by decide) (fun c_2 => ?_) (fun c_2 => ?_)
      · replace h := (if_pos c_2).symm.trans h
        refine lv_aload_n S.1 S.2.1 dL_put_30 rfl (lv_at hl 0 rfl) ?_
        refine lv_iconst (v := (0 : Int32)) S.1 S.2.1 dL_put_31 (by decide) ?_
        refine lv_dup2_11 S.1 S.2.1 dL_put_32 rfl rfl ?_
        obtain ⟨b_3, h⟩ := gd h
        refine gIald (f := σ1.2 0) S hK hB 0 0 rfl rfl b_3 dL_put_33 ?_
        refine lv_aload_n S.1 S.2.1 dL_put_34 rfl (lv_at hl 1 rfl) ?_
        obtain ⟨r_4, e_4, h⟩ := bnd h
        refine mCallTI S (hK.sub (tys' := [(cI, .int), (cJ, .long)]) [0, 1] rfl) lKSc hKS hA (gMet.weak (kJ0_length_8abf5 hw e_4) (fun _ _ q => q.1.1.1.1.1)) (cwL_9 S.2.2.2.2 (rm := rmJ0_length_8abf5) rfl rfl ⟨(Nat.le_of_ble_eq_true rfl), (Nat.le_of_ble_eq_true rfl)⟩) (sRecv hKS.1.1.1.1.1.1 hw hB.2.2) hB rfl hl.1 rfl (lv_room (Nat.le_of_ble_eq_true rfl)) dL_put_35 ⟨by dsimp only [rmL_put]; omega, by dsimp only [rmL_put]; omega⟩ (fun H locs hB => ?_)
        refine lv_iadd S.1 S.2.1 dL_put_38 ?_
        obtain ⟨b_5, h⟩ := gd h
        refine gIast (w' := (LwW cI cJ cQ ad ra ar (rR σ1 0 (upd (σ1.2 0) (0 : Int32).toNatClampNeg ((σ1.2 0 (0 : Int32).toNatClampNeg) + r_4))))) (f := σ1.2 0) S hK hB 0 0 rfl rfl b_5 rfl dL_put_39 (fun H locs hB => ?_)
        refine W.widen (k := 0) (n := 0) (by omega) (by omega) ?_
        cases h
        exact gRetV S.1 S.2.1 hr hlk hB dL_put_40
      · replace h := (if_neg c_2).symm.trans h
        refine lv_aload_n S.1 S.2.1 dL_put_10 rfl (lv_at hl 0 rfl) ?_
        refine lv_iconst (v := (1 : Int32)) S.1 S.2.1 dL_put_11 (by decide) ?_
        refine lv_aload_n S.1 S.2.1 dL_put_12 rfl (lv_at hl 0 rfl) ?_
        refine lv_iconst (v := (0 : Int32)) S.1 S.2.1 dL_put_13 (by decide) ?_
        obtain ⟨b_6, h⟩ := gd h
        refine gIald (f := σ1.2 0) S hK hB 0 0 rfl rfl b_6 dL_put_14 ?_
        refine lv_iadd S.1 S.2.1 dL_put_15 ?_
        refine lv_iload_n S.1 S.2.1 dL_put_16 rfl (lv_at hl 2 rfl) ?_
        refine lv_iadd S.1 S.2.1 dL_put_17 ?_
        refine lv_aload_n S.1 S.2.1 dL_put_18 rfl (lv_at hl 1 rfl) ?_
        refine lv_iload_n S.1 S.2.1 dL_put_19 rfl (lv_at hl 2 rfl) ?_
        obtain ⟨r_7, e_7, h⟩ := bnd h
        refine mCallTI S (hK.sub (tys' := [(cI, .int), (cJ, .long)]) [0, 1] rfl) lKSc hKS hA (gMet.weak (kJ0_charAt_5068e hw e_7) (fun _ _ q => q.1.1.1.1.1)) (cwL_15 S.2.2.2.2 (rm := rmJ0_charAt_5068e) rfl rfl ⟨(Nat.le_of_ble_eq_true rfl), (Nat.le_of_ble_eq_true rfl)⟩) (sRecv hKS.1.1.1.1.1.1 hw hB.2.2) hB rfl hl.1 rfl (lv_room (Nat.le_of_ble_eq_true rfl)) dL_put_20 ⟨by dsimp only [rmL_put]; omega, by dsimp only [rmL_put]; omega⟩ (fun H locs hB => ?_)
        obtain ⟨b_8, h⟩ := gd h
        refine gIast (w' := (LwW cI cJ cQ ad ra ar (rR σ1 0 (upd (σ1.2 0) (((1 : Int32) + (σ1.2 0 (0 : Int32).toNatClampNeg)) + x2).toNatClampNeg r_7)))) (f := σ1.2 0) S hK hB 0 0 rfl rfl b_8 rfl dL_put_23 (fun H locs hB => ?_)
        refine lv_iinc (v := (x2 + (1 : Int32))) (lv' := [(2, .int (x2 + (1 : Int32))), (0, .ref (ar 0)), (1, .ref (adK w))]) S.1 S.2.1 dL_put_24 hl (k := 2) rfl rfl (by decide) rfl (fun ls hl => ?_)
        refine lv_goto (tgt := 2) S.1 S.2.1 dL_put_27 (by decide) ?_
        exact ihc _ _ _ _ _ _ _ (by omega) (by omega) h hB (lv_sub hl [1, 2, 0] rfl)
  refine lv_iconst (v := (0 : Int32)) S.1 S.2.1 dL_put_0 (by decide) ?_
  refine lv_istore_n (lv' := [(2, .int (0 : Int32)), (0, .ref (ar 0)), (1, .ref (adK w))]) S.1 S.2.1 dL_put_1 rfl hl (by decide) rfl (fun ls hl => ?_)
  exact P2  L _ _ _ _ _ _ _ (by omega) (by omega) h hB (lv_sub hl [1, 2, 0] rfl)
def FL_put__14  (x1 : Int32) (σ1 : LwS) : Option (Unit × LwS) :=
    if ((0 : Int32) < 0 ∨ 1700 ≤ (0 : Int32).toNatClampNeg) then none else
    if (((1 : Int32) + (σ1.2 0 (0 : Int32).toNatClampNeg)) < 0 ∨ 1700 ≤ ((1 : Int32) + (σ1.2 0 (0 : Int32).toNatClampNeg)).toNatClampNeg) then none else
    if ((0 : Int32) < 0 ∨ 1700 ≤ (0 : Int32).toNatClampNeg) then none else
    if ((0 : Int32) < 0 ∨ 1700 ≤ (0 : Int32).toNatClampNeg) then none else
    some ((), (rR (rR σ1 0 (upd (σ1.2 0) ((1 : Int32) + (σ1.2 0 (0 : Int32).toNatClampNeg)).toNatClampNeg ((48 : Int32) + (x1 - x1 / (10 : Int32) * (10 : Int32))))) 0 (upd (upd (σ1.2 0) ((1 : Int32) + (σ1.2 0 (0 : Int32).toNatClampNeg)).toNatClampNeg ((48 : Int32) + (x1 - x1 / (10 : Int32) * (10 : Int32)))) (0 : Int32).toNatClampNeg (((upd (σ1.2 0) ((1 : Int32) + (σ1.2 0 (0 : Int32).toNatClampNeg)).toNatClampNeg ((48 : Int32) + (x1 - x1 / (10 : Int32) * (10 : Int32)))) (0 : Int32).toNatClampNeg) + (1 : Int32)))))
def FL_put_ (p1 : Int32) (σ : LwS) : Option (Unit × LwS) :=
  if p1 ≤ (9 : Int32) then
    FL_put__14 p1 σ
  else
    none
abbrev rmL_put_ : Room := { frames := 0, cells := 0, slots := 0, locals := 0 }
set_option maxRecDepth 100000 in
set_option maxHeartbeats 8000000 in
theorem kL_put_ {l : Launch} {D : va_G} {cI cJ cQ : ClassId} {ad : Nat → Nat} {ra : Nat → Nat → Nat} {ar : Nat → Nat} {adK adV tK : Nat → Nat} {b N : Nat} {xs : Nat → Int32} {p1 : Int32} {σ σ' : LwS} (h : FL_put_ p1 σ = some ((), σ')) : gMet l yL_put_ qL_put_ rmL_put_ 0 0 D vwCl [(cI, .int), (cJ, .long), (cQ, .array .long)] (lKS adK adV tK b N xs) [.ref (ar 0), .int p1] (LwW cI cJ cQ ad ra ar σ) (LwW cI cJ cQ ad ra ar σ') none := by
  refine gMet.of (cc := cL_put_) (maxL := 2) (ret := none) (by decide) rfl (Nat.le_of_ble_eq_true rfl) ?_
  intro p e s m args below meth c S hr hlk hnm hK hKS hA hB ls hl
  have hl : lv_has ls 2 [(0, .ref (ar 0)), (1, .int p1)] := hl
  replace S : CallFix p m c cL_put_ 2 s args (_ :: wsL_law) RL := S
  rw [FL_put_] at h
  have P14 : ∀ (x1 : Int32) (σ1 : LwS) (H : Heap) (locs : List Loc) (ls : Array Slot) (cl sl : Nat), cl + 0 ≤ 0 → sl + 0 ≤ 0 → FL_put__14 x1 σ1 = some ((), σ') → gB D vwCl (va_A (LwW cI cJ cQ ad ra ar σ) s.heap.size) s.heap (LwW cI cJ cQ ad ra ar σ1) [] H locs → lv_has ls 2 [(0, .ref (ar 0)), (1, .int x1)] → W p l e rmL_put_ s m args below meth c H locs cl sl (MQ below (gQ D vwCl (LwW cI cJ cQ ad ra ar σ) (LwW cI cJ cQ ad ra ar σ') none s.heap.size) args s 0 0 (va_A (LwW cI cJ cQ ad ra ar σ) s.heap.size)) (F0 m 14 ls []) := by
    intro  x1 σ1 H locs ls cl sl g1 g2 h hB hl
    rw [FL_put__14] at h
    refine lv_aload_n S.1 S.2.1 dL_put__14 rfl (lv_at hl 0 rfl) ?_
    refine lv_iconst (v := (1 : Int32)) S.1 S.2.1 dL_put__15 (by decide) ?_
    refine lv_aload_n S.1 S.2.1 dL_put__16 rfl (lv_at hl 0 rfl) ?_
    refine lv_iconst (v := (0 : Int32)) S.1 S.2.1 dL_put__17 (by decide) ?_
    obtain ⟨b_2, h⟩ := gd h
    refine gIald (f := σ1.2 0) S hK hB 0 0 rfl rfl b_2 dL_put__18 ?_
    refine lv_iadd S.1 S.2.1 dL_put__19 ?_
    refine lv_bipush (v := (48 : Int32)) S.1 S.2.1 dL_put__20 (by decide) ?_
    refine lv_iload_n S.1 S.2.1 dL_put__22 rfl (lv_at hl 1 rfl) ?_
    refine lv_bipush (v := (10 : Int32)) S.1 S.2.1 dL_put__23 (by decide) ?_
    refine lv_irem S.1 S.2.1 dL_put__25 (by decide) ?_
    refine lv_iadd S.1 S.2.1 dL_put__26 ?_
    obtain ⟨b_3, h⟩ := gd h
    refine gIast (w' := (LwW cI cJ cQ ad ra ar (rR σ1 0 (upd (σ1.2 0) ((1 : Int32) + (σ1.2 0 (0 : Int32).toNatClampNeg)).toNatClampNeg ((48 : Int32) + (x1 - x1 / (10 : Int32) * (10 : Int32))))))) (f := σ1.2 0) S hK hB 0 0 rfl rfl b_3 rfl dL_put__27 (fun H locs hB => ?_)
    refine lv_aload_n S.1 S.2.1 dL_put__28 rfl (lv_at hl 0 rfl) ?_
    refine lv_iconst (v := (0 : Int32)) S.1 S.2.1 dL_put__29 (by decide) ?_
    refine lv_dup2_11 S.1 S.2.1 dL_put__30 rfl rfl ?_
    obtain ⟨b_4, h⟩ := gd h
    refine gIald (f := (upd (σ1.2 0) ((1 : Int32) + (σ1.2 0 (0 : Int32).toNatClampNeg)).toNatClampNeg ((48 : Int32) + (x1 - x1 / (10 : Int32) * (10 : Int32))))) S hK hB 0 0 rfl rfl b_4 dL_put__31 ?_
    refine lv_iconst (v := (1 : Int32)) S.1 S.2.1 dL_put__32 (by decide) ?_
    refine lv_iadd S.1 S.2.1 dL_put__33 ?_
    obtain ⟨b_5, h⟩ := gd h
    refine gIast (w' := (LwW cI cJ cQ ad ra ar (rR (rR σ1 0 (upd (σ1.2 0) ((1 : Int32) + (σ1.2 0 (0 : Int32).toNatClampNeg)).toNatClampNeg ((48 : Int32) + (x1 - x1 / (10 : Int32) * (10 : Int32))))) 0 (upd (upd (σ1.2 0) ((1 : Int32) + (σ1.2 0 (0 : Int32).toNatClampNeg)).toNatClampNeg ((48 : Int32) + (x1 - x1 / (10 : Int32) * (10 : Int32)))) (0 : Int32).toNatClampNeg (((upd (σ1.2 0) ((1 : Int32) + (σ1.2 0 (0 : Int32).toNatClampNeg)).toNatClampNeg ((48 : Int32) + (x1 - x1 / (10 : Int32) * (10 : Int32)))) (0 : Int32).toNatClampNeg) + (1 : Int32)))))) (f := (upd (σ1.2 0) ((1 : Int32) + (σ1.2 0 (0 : Int32).toNatClampNeg)).toNatClampNeg ((48 : Int32) + (x1 - x1 / (10 : Int32) * (10 : Int32))))) S hK hB 0 0 rfl rfl b_5 rfl dL_put__34 (fun H locs hB => ?_)
    refine W.widen (k := 0) (n := 0) (by omega) (by omega) ?_
    cases h
    exact gRetV S.1 S.2.1 hr hlk hB dL_put__35
  refine lv_iload_n S.1 S.2.1 dL_put__0 rfl (lv_at hl 1 rfl) ?_
  refine lv_bipush (v := (9 : Int32)) S.1 S.2.1 dL_put__1 (by decide) ?_
  refine lv_icmp_le (tgt := 14) S.1 S.2.1 dL_put__3 (by decide) (fun c_1 => ?_) (fun c_1 => ?_)
  · replace h := (if_pos c_1).symm.trans h
    exact P14  _ _ _ _ _ _ _ (by omega) (by omega) h hB hl
  · replace h := (if_neg c_1).symm.trans h
    cases h
def FL_lay_28 (L : Nat) (k14 : Int32 → Int32 → Int32 → LwS → Option (Int32 × LwS)) : Nat → Int32 → Int32 → Int32 → Int32 → (Nat → Int32) → LwS → Option (Int32 × LwS)
  | 0, _, _, _, _, _, _ => none
  | n+1, x2, x3, x4, x6, xc, σ1 =>
    if (20 : Int32) ≤ x6 then
      if ((0 : Int32) < 0 ∨ 5 ≤ (0 : Int32).toNatClampNeg) then none else
      if ((1 : Int32) < 0 ∨ 5 ≤ (1 : Int32).toNatClampNeg) then none else
      if ((2 : Int32) < 0 ∨ 5 ≤ (2 : Int32).toNatClampNeg) then none else
      if ((3 : Int32) < 0 ∨ 5 ≤ (3 : Int32).toNatClampNeg) then none else
      if ((4 : Int32) < 0 ∨ 5 ≤ (4 : Int32).toNatClampNeg) then none else
      b2 (FX10_feed L (xc (0 : Int32).toNatClampNeg) (xc (1 : Int32).toNatClampNeg) (xc (2 : Int32).toNatClampNeg) (xc (3 : Int32).toNatClampNeg) (xc (4 : Int32).toNatClampNeg) σ1.1) fun o_13 τ_13 => (oRt o_13).bind fun r_13 =>
      k14 x2 x3 (x4 + (20 : Int32)) (rC σ1 τ_13)
    else
      if ((x6 / (4 : Int32)) < 0 ∨ 5 ≤ (x6 / (4 : Int32)).toNatClampNeg) then none else
      if x3 ≤ (x4 + x6) then
        if ((x6 / (4 : Int32)) < 0 ∨ 5 ≤ (x6 / (4 : Int32)).toNatClampNeg) then none else
        (FL_lay_28 L k14 n) x2 x3 x4 (x6 + (1 : Int32)) (upd xc (x6 / (4 : Int32)).toNatClampNeg (((xc (x6 / (4 : Int32)).toNatClampNeg) <<< ((8 : Int32) &&& 31)) ||| (32 : Int32))) σ1
      else
        if ((((1 : Int32) + x4) + x6) < 0 ∨ 1700 ≤ (((1 : Int32) + x4) + x6).toNatClampNeg) then none else
        if ((x6 / (4 : Int32)) < 0 ∨ 5 ≤ (x6 / (4 : Int32)).toNatClampNeg) then none else
        (FL_lay_28 L k14 n) x2 x3 x4 (x6 + (1 : Int32)) (upd xc (x6 / (4 : Int32)).toNatClampNeg (((xc (x6 / (4 : Int32)).toNatClampNeg) <<< ((8 : Int32) &&& 31)) ||| (σ1.2 0 (((1 : Int32) + x4) + x6).toNatClampNeg))) σ1
def FL_lay_14 (L : Nat)  : Nat → Int32 → Int32 → Int32 → LwS → Option (Int32 × LwS)
  | 0, _, _, _, _ => none
  | n+1, x2, x3, x4, σ1 =>
    if x3 ≤ x4 then
      b2 (FX10_trim (x2 + x3) σ1.1) fun o_4 τ_4 => (oRt o_4).bind fun r_4 =>
      if r_4 = (x2 + x3) then
        some ((1 : Int32), (rC σ1 τ_4))
      else
        some ((0 : Int32), (rC σ1 τ_4))
    else
      FL_lay_28 L (FL_lay_14 L n) L x2 x3 x4 (0 : Int32) (fun _ => 0) σ1
def FL_lay (L : Nat)  (σ : LwS) : Option (Int32 × LwS) :=
  b2 (FX10_count (6 : Int32) σ.1) fun o_1 τ_1 => (oRt o_1).bind fun r_1 =>
  if ((0 : Int32) < 0 ∨ 1700 ≤ (0 : Int32).toNatClampNeg) then none else
  FL_lay_14 L 90 r_1 (σ.2 0 (0 : Int32).toNatClampNeg) (0 : Int32) (rC σ τ_1)
abbrev rmL_lay : Room := { frames := 7, cells := 182, slots := 1002, locals := 107 }
set_option maxRecDepth 100000 in
set_option maxHeartbeats 8000000 in
theorem kL_lay {l : Launch} {D : va_G} {cI cJ cQ : ClassId} {ad : Nat → Nat} {ra : Nat → Nat → Nat} {ar : Nat → Nat} {adK adV tK : Nat → Nat} {b N : Nat} {xs : Nat → Int32} {L : Nat} (hl9 : l.stackTraces = false)  {σ σ' : LwS} {r : Int32} (h : FL_lay L  σ = some (r, σ')) : gMet l yL_lay qL_lay rmL_lay 182 1002 D vwCl [(cI, .int), (cJ, .long), (cQ, .array .long)] (lKS adK adV tK b N xs) [.ref (ad 0), .ref (ar 0)] (LwW cI cJ cQ ad ra ar σ) (LwW cI cJ cQ ad ra ar σ') (some (.int r)) := by
  refine gMet.of (cc := cL_lay) (maxL := 7) (ret := (some .boolean)) (by decide) rfl (Nat.le_of_ble_eq_true rfl) ?_
  intro p e s m args below meth c S hr hlk hnm hK hKS hA hB ls hl
  have hl : lv_has ls 7 [(0, .ref (ad 0)), (1, .ref (ar 0))] := hl
  replace S : CallFix p m c cL_lay 7 s args (_ :: wsL_law) RL := S
  rw [FL_lay] at h
  have P28 : ∀ (k14 : Int32 → Int32 → Int32 → LwS → Option (Int32 × LwS)) (kb14 ks14 : Nat) (hb14 : kb14 ≤ 182 ∧ ks14 ≤ 1002) (hk14 : ∀ (x2 : Int32) (x3 : Int32) (x4 : Int32) (σ1 : LwS) (H : Heap) (locs : List Loc) (ls : Array Slot) (cl sl : Nat), cl ≤ kb14 → sl ≤ ks14 → k14 x2 x3 x4 σ1 = some (r, σ') → gB D vwCl (va_A (LwW cI cJ cQ ad ra ar σ) s.heap.size) s.heap (LwW cI cJ cQ ad ra ar σ1) [] H locs → lv_has ls 7 [(0, .ref (ad 0)), (1, .ref (ar 0)), (2, .int x2), (3, .int x3), (4, .int x4)] → W p l e rmL_lay s m args below meth c H locs cl sl (MQ below (gQ D vwCl (LwW cI cJ cQ ad ra ar σ) (LwW cI cJ cQ ad ra ar σ') (some (.int r)) s.heap.size) args s 182 1002 (va_A (LwW cI cJ cQ ad ra ar σ) s.heap.size)) (F0 m 14 ls [])) (n : Nat), ∀ (t0 : Nat) (x2 : Int32) (x3 : Int32) (x4 : Int32) (x6 : Int32) (xc : (Nat → Int32)) (σ1 : LwS) (H : Heap) (locs : List Loc) (ls : Array Slot) (cl sl : Nat), cl + 1 ≤ kb14 → sl + 6 ≤ ks14 → FL_lay_28 L k14 n x2 x3 x4 x6 xc σ1 = some (r, σ') → gB D vwCl (va_A (LwW cI cJ cQ ad ra ar σ) s.heap.size) s.heap (LwW cI cJ cQ ad ra ar σ1) [(t0, .inl (cI, 5, .inl xc))] H locs → lv_has ls 7 [(0, .ref (ad 0)), (1, .ref (ar 0)), (2, .int x2), (3, .int x3), (4, .int x4), (5, .ref t0), (6, .int x6)] → W p l e rmL_lay s m args below meth c H locs cl sl (MQ below (gQ D vwCl (LwW cI cJ cQ ad ra ar σ) (LwW cI cJ cQ ad ra ar σ') (some (.int r)) s.heap.size) args s 182 1002 (va_A (LwW cI cJ cQ ad ra ar σ) s.heap.size)) (F0 m 28 ls []) := by
    intro k14 kb14 ks14 hb14 hk14
    intro n
    induction n with
    | zero => intro t0 x2 x3 x4 x6 xc σ1 H locs ls cl sl g1 g2 h; simp only [FL_lay_28] at h; cases h
    | succ n ih =>
      intro t0 x2 x3 x4 x6 xc σ1 H locs ls cl sl g1 g2 h hB hl
      rw [FL_lay_28] at h
      obtain ⟨kb28, hkb28⟩ : ∃ z, z = (kb14 - 1) := ⟨_, rfl⟩
      obtain ⟨ks28, hks28⟩ : ∃ z, z = (ks14 - 6) := ⟨_, rfl⟩
      have hb28 : kb28 ≤ 182 ∧ ks28 ≤ 1002 := ⟨by omega, by omega⟩
      have ihc : ∀ (t0 : Nat) (x2 : Int32) (x3 : Int32) (x4 : Int32) (x6 : Int32) (xc : (Nat → Int32)) (σ1 : LwS) (H : Heap) (locs : List Loc) (ls : Array Slot) (cl sl : Nat), cl ≤ kb28 → sl ≤ ks28 → (FL_lay_28 L k14 n) x2 x3 x4 x6 xc σ1 = some (r, σ') → gB D vwCl (va_A (LwW cI cJ cQ ad ra ar σ) s.heap.size) s.heap (LwW cI cJ cQ ad ra ar σ1) [(t0, .inl (cI, 5, .inl xc))] H locs → lv_has ls 7 [(0, .ref (ad 0)), (1, .ref (ar 0)), (2, .int x2), (3, .int x3), (4, .int x4), (5, .ref t0), (6, .int x6)] → W p l e rmL_lay s m args below meth c H locs cl sl (MQ below (gQ D vwCl (LwW cI cJ cQ ad ra ar σ) (LwW cI cJ cQ ad ra ar σ') (some (.int r)) s.heap.size) args s 182 1002 (va_A (LwW cI cJ cQ ad ra ar σ) s.heap.size)) (F0 m 28 ls []) := fun t0 x2 x3 x4 x6 xc σ1 H locs ls cl sl q1 q2 h hB hl => ih t0 x2 x3 x4 x6 xc σ1 H locs ls cl sl (by omega) (by omega) h hB hl
      refine lv_iload S.1 S.2.1 dL_lay_28 (lv_at hl 6 rfl) ?_
      refine lv_bipush (v := (20 : Int32)) S.1 S.2.1 dL_lay_30 (by decide) ?_
      refine lv_icmp_ge (tgt := 82) S.1 S.2.1 dL_lay_32 (by decide) (fun c_7 => ?_) (fun c_7 => ?_)
      · replace h := (if_pos c_7).symm.trans h
        refine lv_aload_n S.1 S.2.1 dL_lay_82 rfl (lv_at hl 0 rfl) ?_
        refine lv_aload S.1 S.2.1 dL_lay_83 (lv_at hl 5 rfl) ?_
        refine lv_iconst (v := (0 : Int32)) S.1 S.2.1 dL_lay_85 (by decide) ?_
        obtain ⟨b_8, h⟩ := gd h
        refine lXald (t0 := 0) S hK hB 0 rfl rfl b_8 dL_lay_86 ?_
        refine lv_aload S.1 S.2.1 dL_lay_87 (lv_at hl 5 rfl) ?_
        refine lv_iconst (v := (1 : Int32)) S.1 S.2.1 dL_lay_89 (by decide) ?_
        obtain ⟨b_9, h⟩ := gd h
        refine lXald (t0 := 0) S hK hB 0 rfl rfl b_9 dL_lay_90 ?_
        refine lv_aload S.1 S.2.1 dL_lay_91 (lv_at hl 5 rfl) ?_
        refine lv_iconst (v := (2 : Int32)) S.1 S.2.1 dL_lay_93 (by decide) ?_
        obtain ⟨b_10, h⟩ := gd h
        refine lXald (t0 := 0) S hK hB 0 rfl rfl b_10 dL_lay_94 ?_
        refine lv_aload S.1 S.2.1 dL_lay_95 (lv_at hl 5 rfl) ?_
        refine lv_iconst (v := (3 : Int32)) S.1 S.2.1 dL_lay_97 (by decide) ?_
        obtain ⟨b_11, h⟩ := gd h
        refine lXald (t0 := 0) S hK hB 0 rfl rfl b_11 dL_lay_98 ?_
        refine lv_aload S.1 S.2.1 dL_lay_99 (lv_at hl 5 rfl) ?_
        refine lv_iconst (v := (4 : Int32)) S.1 S.2.1 dL_lay_101 (by decide) ?_
        obtain ⟨b_12, h⟩ := gd h
        refine lXald (t0 := 0) S hK hB 0 rfl rfl b_12 dL_lay_102 ?_
        obtain ⟨o_13, τ_13, e_13, h⟩ := b2s h
        obtain ⟨r_13, u_13, h⟩ := bnd h
        rw [oRt_eq u_13] at e_13
        replace hB := lwC hB
        refine gCallR (v0 := some (.int r_13)) (ci := 10) S hK lKSc hKS hA (gMetX.weak (kX10_feed hl9 e_13) (fun _ _ q => q.1.1)) (cwL_31 S.2.2.2.2 (rm := rmX10_feed) rfl rfl ⟨(Nat.le_of_ble_eq_true rfl), (Nat.le_of_ble_eq_true rfl)⟩) hB 0 rfl rfl rfl hl.1 rfl (lv_room (Nat.le_of_ble_eq_true rfl)) dL_lay_103 ⟨by dsimp only [rmL_lay]; omega, by dsimp only [rmL_lay]; omega⟩ (fun H locs hB => ?_)
        replace hB : gB D vwCl _ _ (LwW cI cJ cQ ad ra ar (rC σ1 τ_13)) [(t0, .inl (cI, 5, .inl xc))] _ _ := lwC2 hB
        refine lv_pop S.1 S.2.1 dL_lay_106 rfl ?_
        refine lv_iinc (v := (x4 + (20 : Int32))) (lv' := [(4, .int (x4 + (20 : Int32))), (0, .ref (ad 0)), (1, .ref (ar 0)), (2, .int x2), (3, .int x3), (5, .ref t0), (6, .int x6)]) S.1 S.2.1 dL_lay_107 hl (k := 4) rfl rfl (by decide) rfl (fun ls hl => ?_)
        refine lv_goto (tgt := 14) S.1 S.2.1 dL_lay_110 (by decide) ?_
        replace hB : gB D vwCl _ _ (LwW cI cJ cQ ad ra ar (rC σ1 τ_13)) [] _ _ := lXdrop (X0 := []) hB
        exact hk14 _ _ _ _ _ _ _ _ _ (by omega) (by omega) h hB (lv_sub hl [1, 2, 3, 4, 0] rfl)
      · replace h := (if_neg c_7).symm.trans h
        refine lv_aload S.1 S.2.1 dL_lay_35 (lv_at hl 5 rfl) ?_
        refine lv_iload S.1 S.2.1 dL_lay_37 (lv_at hl 6 rfl) ?_
        refine lv_iconst (v := (4 : Int32)) S.1 S.2.1 dL_lay_39 (by decide) ?_
        refine lv_idiv S.1 S.2.1 dL_lay_40 (by decide) ?_
        refine lv_aload S.1 S.2.1 dL_lay_41 (lv_at hl 5 rfl) ?_
        refine lv_iload S.1 S.2.1 dL_lay_43 (lv_at hl 6 rfl) ?_
        refine lv_iconst (v := (4 : Int32)) S.1 S.2.1 dL_lay_45 (by decide) ?_
        refine lv_idiv S.1 S.2.1 dL_lay_46 (by decide) ?_
        obtain ⟨b_14, h⟩ := gd h
        refine lXald (t0 := 0) S hK hB 0 rfl rfl b_14 dL_lay_47 ?_
        refine lv_bipush (v := (8 : Int32)) S.1 S.2.1 dL_lay_48 (by decide) ?_
        refine lv_ishl S.1 S.2.1 dL_lay_50 ?_
        refine lv_iload S.1 S.2.1 dL_lay_51 (lv_at hl 4 rfl) ?_
        refine lv_iload S.1 S.2.1 dL_lay_53 (lv_at hl 6 rfl) ?_
        refine lv_iadd S.1 S.2.1 dL_lay_55 ?_
        refine lv_iload_n S.1 S.2.1 dL_lay_56 rfl (lv_at hl 3 rfl) ?_
        refine lv_icmp_ge (tgt := 72) S.1 S.2.1 dL_lay_57 (by decide) (fun c_15 => ?_) (fun c_15 => ?_)
        · replace h := (if_pos c_15).symm.trans h
          refine lv_bipush (v := (32 : Int32)) S.1 S.2.1 dL_lay_72 (by decide) ?_
          refine lv_ior S.1 S.2.1 dL_lay_74 ?_
          obtain ⟨b_16, h⟩ := gd h
          refine lXast (X' := [(t0, .inl (cI, 5, .inl (upd xc (x6 / (4 : Int32)).toNatClampNeg (((xc (x6 / (4 : Int32)).toNatClampNeg) <<< ((8 : Int32) &&& 31)) ||| (32 : Int32)))))]) (t0 := 0) S hK hB 0 rfl rfl b_16 rfl dL_lay_75 (fun H locs hB => ?_)
          refine lv_iinc (v := (x6 + (1 : Int32))) (lv' := [(6, .int (x6 + (1 : Int32))), (0, .ref (ad 0)), (1, .ref (ar 0)), (2, .int x2), (3, .int x3), (4, .int x4), (5, .ref t0)]) S.1 S.2.1 dL_lay_76 hl (k := 6) rfl rfl (by decide) rfl (fun ls hl => ?_)
          refine lv_goto (tgt := 28) S.1 S.2.1 dL_lay_79 (by decide) ?_
          exact ihc _ _ _ _ _ _ _ _ _ _ _ _ (by omega) (by omega) h hB (lv_sub hl [1, 2, 3, 4, 5, 6, 0] rfl)
        · replace h := (if_neg c_15).symm.trans h
          refine lv_aload_n S.1 S.2.1 dL_lay_60 rfl (lv_at hl 1 rfl) ?_
          refine lv_iconst (v := (1 : Int32)) S.1 S.2.1 dL_lay_61 (by decide) ?_
          refine lv_iload S.1 S.2.1 dL_lay_62 (lv_at hl 4 rfl) ?_
          refine lv_iadd S.1 S.2.1 dL_lay_64 ?_
          refine lv_iload S.1 S.2.1 dL_lay_65 (lv_at hl 6 rfl) ?_
          refine lv_iadd S.1 S.2.1 dL_lay_67 ?_
          obtain ⟨b_17, h⟩ := gd h
          refine gIald (f := σ1.2 0) S hK hB 0 0 rfl rfl b_17 dL_lay_68 ?_
          refine lv_goto (tgt := 74) S.1 S.2.1 dL_lay_69 (by decide) ?_
          refine lv_ior S.1 S.2.1 dL_lay_74 ?_
          obtain ⟨b_18, h⟩ := gd h
          refine lXast (X' := [(t0, .inl (cI, 5, .inl (upd xc (x6 / (4 : Int32)).toNatClampNeg (((xc (x6 / (4 : Int32)).toNatClampNeg) <<< ((8 : Int32) &&& 31)) ||| (σ1.2 0 (((1 : Int32) + x4) + x6).toNatClampNeg)))))]) (t0 := 0) S hK hB 0 rfl rfl b_18 rfl dL_lay_75 (fun H locs hB => ?_)
          refine lv_iinc (v := (x6 + (1 : Int32))) (lv' := [(6, .int (x6 + (1 : Int32))), (0, .ref (ad 0)), (1, .ref (ar 0)), (2, .int x2), (3, .int x3), (4, .int x4), (5, .ref t0)]) S.1 S.2.1 dL_lay_76 hl (k := 6) rfl rfl (by decide) rfl (fun ls hl => ?_)
          refine lv_goto (tgt := 28) S.1 S.2.1 dL_lay_79 (by decide) ?_
          exact ihc _ _ _ _ _ _ _ _ _ _ _ _ (by omega) (by omega) h hB (lv_sub hl [1, 2, 3, 4, 5, 6, 0] rfl)
  have P14 : ∀  (n : Nat), ∀ (x2 : Int32) (x3 : Int32) (x4 : Int32) (σ1 : LwS) (H : Heap) (locs : List Loc) (ls : Array Slot) (cl sl : Nat), cl + n * 2 + 1 ≤ 182 → sl + n * 11 + 6 ≤ 1002 → FL_lay_14 L n x2 x3 x4 σ1 = some (r, σ') → gB D vwCl (va_A (LwW cI cJ cQ ad ra ar σ) s.heap.size) s.heap (LwW cI cJ cQ ad ra ar σ1) [] H locs → lv_has ls 7 [(0, .ref (ad 0)), (1, .ref (ar 0)), (2, .int x2), (3, .int x3), (4, .int x4)] → W p l e rmL_lay s m args below meth c H locs cl sl (MQ below (gQ D vwCl (LwW cI cJ cQ ad ra ar σ) (LwW cI cJ cQ ad ra ar σ') (some (.int r)) s.heap.size) args s 182 1002 (va_A (LwW cI cJ cQ ad ra ar σ) s.heap.size)) (F0 m 14 ls []) := by
    intro n
    induction n with
    | zero => intro x2 x3 x4 σ1 H locs ls cl sl g1 g2 h; simp only [FL_lay_14] at h; cases h
    | succ n ih =>
      intro x2 x3 x4 σ1 H locs ls cl sl g1 g2 h hB hl
      rw [FL_lay_14] at h
      obtain ⟨kb14, hkb14⟩ : ∃ z, z = (182 - n * 2 - 1) := ⟨_, rfl⟩
      obtain ⟨ks14, hks14⟩ : ∃ z, z = (1002 - n * 11 - 6) := ⟨_, rfl⟩
      have hb14 : kb14 ≤ 182 ∧ ks14 ≤ 1002 := ⟨by omega, by omega⟩
      have ihc : ∀ (x2 : Int32) (x3 : Int32) (x4 : Int32) (σ1 : LwS) (H : Heap) (locs : List Loc) (ls : Array Slot) (cl sl : Nat), cl ≤ kb14 → sl ≤ ks14 → (FL_lay_14 L n) x2 x3 x4 σ1 = some (r, σ') → gB D vwCl (va_A (LwW cI cJ cQ ad ra ar σ) s.heap.size) s.heap (LwW cI cJ cQ ad ra ar σ1) [] H locs → lv_has ls 7 [(0, .ref (ad 0)), (1, .ref (ar 0)), (2, .int x2), (3, .int x3), (4, .int x4)] → W p l e rmL_lay s m args below meth c H locs cl sl (MQ below (gQ D vwCl (LwW cI cJ cQ ad ra ar σ) (LwW cI cJ cQ ad ra ar σ') (some (.int r)) s.heap.size) args s 182 1002 (va_A (LwW cI cJ cQ ad ra ar σ) s.heap.size)) (F0 m 14 ls []) := fun x2 x3 x4 σ1 H locs ls cl sl q1 q2 h hB hl => ih x2 x3 x4 σ1 H locs ls cl sl (by omega) (by omega) h hB hl
      refine lv_iload S.1 S.2.1 dL_lay_14 (lv_at hl 4 rfl) ?_
      refine lv_iload_n S.1 S.2.1 dL_lay_16 rfl (lv_at hl 3 rfl) ?_
      refine lv_icmp_ge (tgt := 113) S.1 S.2.1 dL_lay_17 (by decide) (fun c_3 => ?_) (fun c_3 => ?_)
      · replace h := (if_pos c_3).symm.trans h
        refine lv_aload_n S.1 S.2.1 dL_lay_113 rfl (lv_at hl 0 rfl) ?_
        refine lv_iload_n S.1 S.2.1 dL_lay_114 rfl (lv_at hl 2 rfl) ?_
        refine lv_iload_n S.1 S.2.1 dL_lay_115 rfl (lv_at hl 3 rfl) ?_
        refine lv_iadd S.1 S.2.1 dL_lay_116 ?_
        obtain ⟨o_4, τ_4, e_4, h⟩ := b2s h
        obtain ⟨r_4, u_4, h⟩ := bnd h
        rw [oRt_eq u_4] at e_4
        replace hB := lwC hB
        refine gCallR (v0 := some (.int r_4)) (ci := 10) S hK lKSc hKS hA (gMetX.weak (kX10_trim hl9 e_4) (fun _ _ q => q.1.1)) (cwL_35 S.2.2.2.2 (rm := rmX10_trim) rfl rfl ⟨(Nat.le_of_ble_eq_true rfl), (Nat.le_of_ble_eq_true rfl)⟩) hB 0 rfl rfl rfl hl.1 rfl (lv_room (Nat.le_of_ble_eq_true rfl)) dL_lay_117 ⟨by dsimp only [rmL_lay]; omega, by dsimp only [rmL_lay]; omega⟩ (fun H locs hB => ?_)
        replace hB : gB D vwCl _ _ (LwW cI cJ cQ ad ra ar (rC σ1 τ_4)) [] _ _ := lwC2 hB
        refine lv_iload_n S.1 S.2.1 dL_lay_120 rfl (lv_at hl 2 rfl) ?_
        refine lv_iload_n S.1 S.2.1 dL_lay_121 rfl (lv_at hl 3 rfl) ?_
        refine lv_iadd S.1 S.2.1 dL_lay_122 ?_
        refine lv_icmp_ne (tgt := 130) S.1 S.2.1 dL_lay_123 (by decide) (fun c_5 => ?_) (fun c_5 => ?_)
        · replace h := (if_neg c_5).symm.trans h
          refine lv_iconst (v := (0 : Int32)) S.1 S.2.1 dL_lay_130 (by decide) ?_
          refine W.widen (k := 182) (n := 1002) (by omega) (by omega) ?_
          cases h
          exact gRetZ S.1 S.2.1 hr hlk hB rfl dL_lay_131
        · replace h := (if_pos c_5).symm.trans h
          refine lv_iconst (v := (1 : Int32)) S.1 S.2.1 dL_lay_126 (by decide) ?_
          refine lv_goto (tgt := 131) S.1 S.2.1 dL_lay_127 (by decide) ?_
          refine W.widen (k := 182) (n := 1002) (by omega) (by omega) ?_
          cases h
          exact gRetZ S.1 S.2.1 hr hlk hB rfl dL_lay_131
      · replace h := (if_neg c_3).symm.trans h
        refine lv_iconst (v := (5 : Int32)) S.1 S.2.1 dL_lay_20 (by decide) ?_
        refine gNewI (i := 0) (N := 5) S hK rfl hB hA (S.2.2.2.2 _ (List.mem_cons_of_mem _ wo_arr_int)) (by decide) rfl (by decide) ⟨by dsimp only [rmL_lay]; omega, by dsimp only [rmL_lay]; omega⟩ dL_lay_21 (fun q_6 H hB => ?_)
        replace hB : gB D vwCl _ _ (LwW cI cJ cQ ad ra ar σ1) [(q_6, .inl (cI, 5, .inl (fun _ => 0)))] _ _ := hB
        refine lv_astore (lv' := [(5, .ref q_6), (0, .ref (ad 0)), (1, .ref (ar 0)), (2, .int x2), (3, .int x3), (4, .int x4)]) S.1 S.2.1 dL_lay_23 hl (by decide) rfl (fun ls hl => ?_)
        refine lv_iconst (v := (0 : Int32)) S.1 S.2.1 dL_lay_25 (by decide) ?_
        refine lv_istore (lv' := [(6, .int (0 : Int32)), (5, .ref q_6), (0, .ref (ad 0)), (1, .ref (ar 0)), (2, .int x2), (3, .int x3), (4, .int x4)]) S.1 S.2.1 dL_lay_26 hl (by decide) rfl (fun ls hl => ?_)
        exact P28 (FL_lay_14 L n) _ _ hb14 ihc L _ _ _ _ _ _ _ _ _ _ _ _ (by omega) (by omega) h hB (lv_sub hl [2, 3, 4, 5, 6, 1, 0] rfl)
  refine lv_aload_n S.1 S.2.1 dL_lay_0 rfl (lv_at hl 0 rfl) ?_
  refine lv_bipush (v := (6 : Int32)) S.1 S.2.1 dL_lay_1 (by decide) ?_
  obtain ⟨o_1, τ_1, e_1, h⟩ := b2s h
  obtain ⟨r_1, u_1, h⟩ := bnd h
  rw [oRt_eq u_1] at e_1
  replace hB := lwC hB
  refine gCallR (v0 := some (.int r_1)) (ci := 10) S hK lKSc hKS hA (gMetX.weak (kX10_count hl9 e_1) (fun _ _ q => q.1.1)) (cwL_25 S.2.2.2.2 (rm := rmX10_count) rfl rfl ⟨(Nat.le_of_ble_eq_true rfl), (Nat.le_of_ble_eq_true rfl)⟩) hB 0 rfl rfl rfl hl.1 rfl (lv_room (Nat.le_of_ble_eq_true rfl)) dL_lay_3 ⟨by dsimp only [rmL_lay]; omega, by dsimp only [rmL_lay]; omega⟩ (fun H locs hB => ?_)
  replace hB : gB D vwCl _ _ (LwW cI cJ cQ ad ra ar (rC σ τ_1)) [] _ _ := lwC2 hB
  refine lv_istore_n (lv' := [(2, .int r_1), (0, .ref (ad 0)), (1, .ref (ar 0))]) S.1 S.2.1 dL_lay_6 rfl hl (by decide) rfl (fun ls hl => ?_)
  refine lv_aload_n S.1 S.2.1 dL_lay_7 rfl (lv_at hl 2 rfl) ?_
  refine lv_iconst (v := (0 : Int32)) S.1 S.2.1 dL_lay_8 (by decide) ?_
  obtain ⟨b_2, h⟩ := gd h
  refine gIald (f := σ.2 0) S hK hB 0 0 rfl rfl b_2 dL_lay_9 ?_
  refine lv_istore_n (lv' := [(3, .int (σ.2 0 (0 : Int32).toNatClampNeg)), (2, .int r_1), (0, .ref (ad 0)), (1, .ref (ar 0))]) S.1 S.2.1 dL_lay_10 rfl hl (by decide) rfl (fun ls hl => ?_)
  refine lv_iconst (v := (0 : Int32)) S.1 S.2.1 dL_lay_11 (by decide) ?_
  refine lv_istore (lv' := [(4, .int (0 : Int32)), (3, .int (σ.2 0 (0 : Int32).toNatClampNeg)), (2, .int r_1), (0, .ref (ad 0)), (1, .ref (ar 0))]) S.1 S.2.1 dL_lay_12 hl (by decide) rfl (fun ls hl => ?_)
  exact P14  90 _ _ _ _ _ _ _ _ _ (by omega) (by omega) h hB (lv_sub hl [3, 4, 2, 1, 0] rfl)
