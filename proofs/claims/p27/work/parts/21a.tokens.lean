def FX8_append_3 (L : Nat)  : Nat → Int32 → Int32 → CS → Option (Unit × CS)
  | 0, _, _, _ => none
  | n+1, x1, x2, σ1 =>
    if x2 < 0 then
      some ((), σ1)
    else
      (FX8_append_3 L n) x1 (x2 + (-8 : Int32)) (tI (tA σ1 3 (putI 1800 (σ1.2.2.1 3) (σ1.1 101) ((x1 >>> (x2 &&& 31)) &&& (255 : Int32)))) 101 ((σ1.1 101) + (1 : Int32)))
def FX8_append (L : Nat) (p0 : Int32) (σ : CS) : Option (Unit × CS) :=
  FX8_append_3 L L p0 (24 : Int32) σ
abbrev rmX8_append : Room := { frames := 1, cells := 0, slots := 0, locals := 22 }
set_option maxRecDepth 100000 in
set_option maxHeartbeats 4000000 in
theorem kX8_append {l : Launch} {D : va_G} {cI cJ cQ : ClassId} {ad : Nat → Nat} {ra : Nat → Nat → Nat} {adK adV tK : Nat → Nat} {L : Nat} {p0 : Int32} {σ σ' : CS} (h : FX8_append L p0 σ = some ((), σ')) : gMet l yX8_append qX8_append rmX8_append 0 0 D vwCl [(cI, .int), (cJ, .long), (cQ, .array .long)] (cKS adK adV tK) [.ref (ad 1), .int p0] (CW cI cJ cQ ad ra σ) (CW cI cJ cQ ad ra σ') none := by
  refine gMet.of (cc := cX8_append) (maxL := 3) (ret := none) (by decide) rfl (Nat.le_of_ble_eq_true rfl) ?_
  intro p e s m args below meth c S hr hlk hnm hK hKS hA hB ls hl
  have hl : lv_has ls 3 [(0, .ref (ad 1)), (1, .int p0)] := hl
  replace S : CallFix p m c cX8_append 3 s args (_ :: wsL_law) RX8 := S
  rw [FX8_append] at h
  have P3 : ∀  (n : Nat), ∀ (x1 : Int32) (x2 : Int32) (σ1 : CS) (H : Heap) (locs : List Loc) (ls : Array Slot), FX8_append_3 L n x1 x2 σ1 = some ((), σ') → gB D vwCl (va_A (CW cI cJ cQ ad ra σ) s.heap.size) s.heap (CW cI cJ cQ ad ra σ1) [] H locs → lv_has ls 3 [(0, .ref (ad 1)), (1, .int x1), (2, .int x2)] → W p l e rmX8_append s m args below meth c H locs 0 0 (MQ below (gQ D vwCl (CW cI cJ cQ ad ra σ) (CW cI cJ cQ ad ra σ') none s.heap.size) args s 0 0 (va_A (CW cI cJ cQ ad ra σ) s.heap.size)) (F0 m 3 ls []) := by
    intro n
    induction n with
    | zero => intro x1 x2 σ1 H locs ls h; simp only [FX8_append_3] at h; cases h
    | succ n ih =>
      intro x1 x2 σ1 H locs ls h hB hl
      rw [FX8_append_3] at h
      refine lv_iload_n S.1 S.2.1 dX8_append_3 rfl (lv_at hl 2 rfl) ?_
      refine lv_if_lt (tgt := 41) S.1 S.2.1 dX8_append_4 (by decide) (fun c_1 => ?_) (fun c_1 => ?_)
      · replace h := (if_pos c_1).symm.trans h
        cases h
        exact gRetV S.1 S.2.1 hr hlk hB dX8_append_41
      · replace h := (if_neg c_1).symm.trans h
        refine lv_aload_n S.1 S.2.1 dX8_append_7 rfl (lv_at hl 0 rfl) ?_
        refine tg_1_0 S hK hB (S.2.2.2.2 _ (List.mem_cons_of_mem _ wf_X8_14)) dX8_append_8 ?_
        refine lv_aload_n S.1 S.2.1 dX8_append_11 rfl (lv_at hl 0 rfl) ?_
        refine tg_1_1 S hK hB (S.2.2.2.2 _ (List.mem_cons_of_mem _ wf_X8_20)) rfl dX8_append_12 ?_
        refine lv_iload_n S.1 S.2.1 dX8_append_15 rfl (lv_at hl 1 rfl) ?_
        refine lv_iload_n S.1 S.2.1 dX8_append_16 rfl (lv_at hl 2 rfl) ?_
        refine lv_ishr S.1 S.2.1 dX8_append_17 ?_
        refine lv_sipush (v := (255 : Int32)) S.1 S.2.1 dX8_append_18 (by decide) ?_
        refine lv_iand S.1 S.2.1 dX8_append_21 ?_
        refine lp_2 S hK cKSc hKS hA hB (cwX8_24 S.2.2.2.2 (rm := { frames := 0, cells := 0, slots := 0, locals := 0 }) rfl rfl ⟨Nat.le_of_ble_eq_true rfl, Nat.le_of_ble_eq_true rfl⟩) hl.1 (lv_room (Nat.le_of_ble_eq_true rfl)) dX8_append_22 ⟨Nat.zero_le _, Nat.zero_le _⟩ (fun H locs hB => ?_)
        refine lv_aload_n S.1 S.2.1 dX8_append_25 rfl (lv_at hl 0 rfl) ?_
        refine lv_dup S.1 S.2.1 dX8_append_26 rfl ?_
        refine tg_1_1 (v := (σ1.1 101)) S hK hB (S.2.2.2.2 _ (List.mem_cons_of_mem _ wf_X8_20)) rfl dX8_append_27 ?_
        refine lv_iconst (v := (1 : Int32)) S.1 S.2.1 dX8_append_30 (by decide) ?_
        refine lv_iadd S.1 S.2.1 dX8_append_31 ?_
        refine tp_1_1 S hK hB (S.2.2.2.2 _ (List.mem_cons_of_mem _ wf_X8_20)) dX8_append_32 (fun H locs hB => ?_)
        refine lv_iinc (v := (x2 + (-8 : Int32))) (lv' := [(2, .int (x2 + (-8 : Int32))), (0, .ref (ad 1)), (1, .int x1)]) S.1 S.2.1 dX8_append_35 hl (k := 2) rfl rfl (by decide) rfl (fun ls hl => ?_)
        refine lv_goto (tgt := 3) S.1 S.2.1 dX8_append_38 (by decide) ?_
        exact ih _ _ _ _ _ _ h hB (lv_sub hl [1, 2, 0] rfl)
  refine lv_bipush (v := (24 : Int32)) S.1 S.2.1 dX8_append_0 (by decide) ?_
  refine lv_istore_n (lv' := [(2, .int (24 : Int32)), (0, .ref (ad 1)), (1, .int p0)]) S.1 S.2.1 dX8_append_2 rfl hl (by decide) rfl (fun ls hl => ?_)
  exact P3  L _ _ _ _ _ _ h hB (lv_sub hl [1, 2, 0] rfl)
def FX8_byteAt (p0 : Int32) (σ : CS) : Option (Int32 × CS) :=
  if (σ.1 101) ≤ p0 then
    some ((-1 : Int32), σ)
  else
    some ((getI 1800 (σ.2.2.1 3) p0), σ)
abbrev rmX8_byteAt : Room := { frames := 1, cells := 0, slots := 0, locals := 21 }
set_option maxRecDepth 100000 in
set_option maxHeartbeats 4000000 in
theorem kX8_byteAt {l : Launch} {D : va_G} {cI cJ cQ : ClassId} {ad : Nat → Nat} {ra : Nat → Nat → Nat} {adK adV tK : Nat → Nat} {p0 : Int32} {σ σ' : CS} {r : Int32} (h : FX8_byteAt p0 σ = some (r, σ')) : gMet l yX8_byteAt qX8_byteAt rmX8_byteAt 0 0 D vwCl [(cI, .int), (cJ, .long), (cQ, .array .long)] (cKS adK adV tK) [.ref (ad 1), .int p0] (CW cI cJ cQ ad ra σ) (CW cI cJ cQ ad ra σ') (some (.int r)) := by
  refine gMet.of (cc := cX8_byteAt) (maxL := 2) (ret := (some .int)) (by decide) rfl (Nat.le_of_ble_eq_true rfl) ?_
  intro p e s m args below meth c S hr hlk hnm hK hKS hA hB ls hl
  have hl : lv_has ls 2 [(0, .ref (ad 1)), (1, .int p0)] := hl
  replace S : CallFix p m c cX8_byteAt 2 s args (_ :: wsL_law) RX8 := S
  rw [FX8_byteAt] at h
  refine lv_iload_n S.1 S.2.1 dX8_byteAt_0 rfl (lv_at hl 1 rfl) ?_
  refine lv_aload_n S.1 S.2.1 dX8_byteAt_1 rfl (lv_at hl 0 rfl) ?_
  refine tg_1_1 S hK hB (S.2.2.2.2 _ (List.mem_cons_of_mem _ wf_X8_20)) rfl dX8_byteAt_2 ?_
  refine lv_icmp_ge (tgt := 19) S.1 S.2.1 dX8_byteAt_5 (by decide) (fun c_1 => ?_) (fun c_1 => ?_)
  · replace h := (if_pos c_1).symm.trans h
    refine lv_iconst (v := (-1 : Int32)) S.1 S.2.1 dX8_byteAt_19 (by decide) ?_
    cases h
    exact gRetI S.1 S.2.1 hr hlk hB dX8_byteAt_20
  · replace h := (if_neg c_1).symm.trans h
    refine lv_aload_n S.1 S.2.1 dX8_byteAt_8 rfl (lv_at hl 0 rfl) ?_
    refine tg_1_0 S hK hB (S.2.2.2.2 _ (List.mem_cons_of_mem _ wf_X8_14)) dX8_byteAt_9 ?_
    refine lv_iload_n S.1 S.2.1 dX8_byteAt_12 rfl (lv_at hl 1 rfl) ?_
    refine lg_2 (r := (getI 1800 (σ.2.2.1 3) p0)) S hK cKSc hKS hA hB rfl (cwX8_28 S.2.2.2.2 (rm := { frames := 0, cells := 0, slots := 0, locals := 0 }) rfl rfl ⟨Nat.le_of_ble_eq_true rfl, Nat.le_of_ble_eq_true rfl⟩) hl.1 (lv_room (Nat.le_of_ble_eq_true rfl)) dX8_byteAt_13 ⟨Nat.zero_le _, Nat.zero_le _⟩ (fun H locs hB => ?_)
    refine lv_goto (tgt := 20) S.1 S.2.1 dX8_byteAt_16 (by decide) ?_
    cases h
    exact gRetI S.1 S.2.1 hr hlk hB dX8_byteAt_20
def FX0_lastTime  (σ : CS) : Option (Int32 × CS) :=
  if (σ.1 4402) ≤ 0 then
    some ((0 : Int32), σ)
  else
    some ((getI 120 (σ.2.2.1 46) ((σ.1 4402) - (1 : Int32))), σ)
abbrev rmX0_lastTime : Room := { frames := 1, cells := 0, slots := 0, locals := 21 }
set_option maxRecDepth 100000 in
set_option maxHeartbeats 4000000 in
theorem kX0_lastTime {l : Launch} {D : va_G} {cI cJ cQ : ClassId} {ad : Nat → Nat} {ra : Nat → Nat → Nat} {adK adV tK : Nat → Nat}  {σ σ' : CS} {r : Int32} (h : FX0_lastTime  σ = some (r, σ')) : gMet l yX0_lastTime qX0_lastTime rmX0_lastTime 0 0 D vwCl [(cI, .int), (cJ, .long), (cQ, .array .long)] (cKS adK adV tK) [.ref (ad 44)] (CW cI cJ cQ ad ra σ) (CW cI cJ cQ ad ra σ') (some (.int r)) := by
  refine gMet.of (cc := cX0_lastTime) (maxL := 1) (ret := (some .int)) (by decide) rfl (Nat.le_of_ble_eq_true rfl) ?_
  intro p e s m args below meth c S hr hlk hnm hK hKS hA hB ls hl
  have hl : lv_has ls 1 [(0, .ref (ad 44))] := hl
  replace S : CallFix p m c cX0_lastTime 1 s args (_ :: wsL_law) RX0 := S
  rw [FX0_lastTime] at h
  refine lv_aload_n S.1 S.2.1 dX0_lastTime_0 rfl (lv_at hl 0 rfl) ?_
  refine tg_44_2 S hK hB (S.2.2.2.2 _ (List.mem_cons_of_mem _ wf_X0_27)) rfl dX0_lastTime_1 ?_
  refine lv_if_le (tgt := 23) S.1 S.2.1 dX0_lastTime_4 (by decide) (fun c_1 => ?_) (fun c_1 => ?_)
  · replace h := (if_pos c_1).symm.trans h
    refine lv_iconst (v := (0 : Int32)) S.1 S.2.1 dX0_lastTime_23 (by decide) ?_
    cases h
    exact gRetI S.1 S.2.1 hr hlk hB dX0_lastTime_24
  · replace h := (if_neg c_1).symm.trans h
    refine lv_aload_n S.1 S.2.1 dX0_lastTime_7 rfl (lv_at hl 0 rfl) ?_
    refine tg_44_0 S hK hB (S.2.2.2.2 _ (List.mem_cons_of_mem _ wf_X0_14)) dX0_lastTime_8 ?_
    refine lv_aload_n S.1 S.2.1 dX0_lastTime_11 rfl (lv_at hl 0 rfl) ?_
    refine tg_44_2 S hK hB (S.2.2.2.2 _ (List.mem_cons_of_mem _ wf_X0_27)) rfl dX0_lastTime_12 ?_
    refine lv_iconst (v := (1 : Int32)) S.1 S.2.1 dX0_lastTime_15 (by decide) ?_
    refine lv_isub S.1 S.2.1 dX0_lastTime_16 ?_
    refine lg_45 (r := (getI 120 (σ.2.2.1 46) ((σ.1 4402) - (1 : Int32)))) S hK cKSc hKS hA hB rfl (cwX0_31 S.2.2.2.2 (rm := { frames := 0, cells := 0, slots := 0, locals := 0 }) rfl rfl ⟨Nat.le_of_ble_eq_true rfl, Nat.le_of_ble_eq_true rfl⟩) hl.1 (lv_room (Nat.le_of_ble_eq_true rfl)) dX0_lastTime_17 ⟨Nat.zero_le _, Nat.zero_le _⟩ (fun H locs hB => ?_)
    refine lv_goto (tgt := 24) S.1 S.2.1 dX0_lastTime_20 (by decide) ?_
    cases h
    exact gRetI S.1 S.2.1 hr hlk hB dX0_lastTime_24
def FX0_copy_44 (L : Nat) (k18 : Int32 → CS → Option (Unit × CS)) : Nat → Int32 → Int32 → CS → Option (Unit × CS)
  | 0, _, _, _ => none
  | n+1, x2, x3, σ1 =>
    if (σ1.1 4903) ≤ x3 then
      k18 (x2 + (1 : Int32)) σ1
    else
      (FX0_copy_44 L k18 n) x2 (x3 + (1 : Int32)) (tT σ1 1 (putT 8 (σ1.2.2.2.2 1) x3 x2 (getT 8 (σ1.2.2.2.2 0) x3 x2)))
def FX0_copy_18 (L : Nat)  : Nat → Int32 → CS → Option (Unit × CS)
  | 0, _, _ => none
  | n+1, x2, σ1 =>
    if (σ1.1 4902) ≤ x2 then
      some ((), σ1)
    else
      FX0_copy_44 L (FX0_copy_18 L n) L x2 (0 : Int32) (tA σ1 51 (putI 120 (σ1.2.2.1 51) x2 (getI 120 (σ1.2.2.1 46) x2)))
def FX0_copy (L : Nat)  (σ : CS) : Option (Unit × CS) :=
  FX0_copy_18 L L (0 : Int32) (tI (tI σ 4902 (σ.1 4402)) 4903 (σ.1 4403))
abbrev rmX0_copy : Room := { frames := 1, cells := 0, slots := 0, locals := 25 }
set_option maxRecDepth 100000 in
set_option maxHeartbeats 4000000 in
theorem kX0_copy {l : Launch} {D : va_G} {cI cJ cQ : ClassId} {ad : Nat → Nat} {ra : Nat → Nat → Nat} {adK adV tK : Nat → Nat} {L : Nat}  {σ σ' : CS} (h : FX0_copy L  σ = some ((), σ')) : gMet l yX0_copy qX0_copy rmX0_copy 0 0 D vwCl [(cI, .int), (cJ, .long), (cQ, .array .long)] (cKS adK adV tK) [.ref (ad 49), .ref (ad 44)] (CW cI cJ cQ ad ra σ) (CW cI cJ cQ ad ra σ') none := by
  refine gMet.of (cc := cX0_copy) (maxL := 4) (ret := none) (by decide) rfl (Nat.le_of_ble_eq_true rfl) ?_
  intro p e s m args below meth c S hr hlk hnm hK hKS hA hB ls hl
  have hl : lv_has ls 4 [(0, .ref (ad 49)), (1, .ref (ad 44))] := hl
  replace S : CallFix p m c cX0_copy 4 s args (_ :: wsL_law) RX0 := S
  rw [FX0_copy] at h
  have P44 : ∀ (k18 : Int32 → CS → Option (Unit × CS)) (hk18 : ∀ (x2 : Int32) (σ1 : CS) (H : Heap) (locs : List Loc) (ls : Array Slot), k18 x2 σ1 = some ((), σ') → gB D vwCl (va_A (CW cI cJ cQ ad ra σ) s.heap.size) s.heap (CW cI cJ cQ ad ra σ1) [] H locs → lv_has ls 4 [(0, .ref (ad 49)), (1, .ref (ad 44)), (2, .int x2)] → W p l e rmX0_copy s m args below meth c H locs 0 0 (MQ below (gQ D vwCl (CW cI cJ cQ ad ra σ) (CW cI cJ cQ ad ra σ') none s.heap.size) args s 0 0 (va_A (CW cI cJ cQ ad ra σ) s.heap.size)) (F0 m 18 ls [])) (n : Nat), ∀ (x2 : Int32) (x3 : Int32) (σ1 : CS) (H : Heap) (locs : List Loc) (ls : Array Slot), FX0_copy_44 L k18 n x2 x3 σ1 = some ((), σ') → gB D vwCl (va_A (CW cI cJ cQ ad ra σ) s.heap.size) s.heap (CW cI cJ cQ ad ra σ1) [] H locs → lv_has ls 4 [(0, .ref (ad 49)), (1, .ref (ad 44)), (2, .int x2), (3, .int x3)] → W p l e rmX0_copy s m args below meth c H locs 0 0 (MQ below (gQ D vwCl (CW cI cJ cQ ad ra σ) (CW cI cJ cQ ad ra σ') none s.heap.size) args s 0 0 (va_A (CW cI cJ cQ ad ra σ) s.heap.size)) (F0 m 44 ls []) := by
    intro k18 hk18
    intro n
    induction n with
    | zero => intro x2 x3 σ1 H locs ls h; simp only [FX0_copy_44] at h; cases h
    | succ n ih =>
      intro x2 x3 σ1 H locs ls h hB hl
      rw [FX0_copy_44] at h
      refine lv_iload_n S.1 S.2.1 dX0_copy_44 rfl (lv_at hl 3 rfl) ?_
      refine lv_aload_n S.1 S.2.1 dX0_copy_45 rfl (lv_at hl 0 rfl) ?_
      refine tg_49_3 S hK hB (S.2.2.2.2 _ (List.mem_cons_of_mem _ wf_X0_35)) rfl dX0_copy_46 ?_
      refine lv_icmp_ge (tgt := 76) S.1 S.2.1 dX0_copy_49 (by decide) (fun c_2 => ?_) (fun c_2 => ?_)
      · replace h := (if_pos c_2).symm.trans h
        refine lv_iinc (v := (x2 + (1 : Int32))) (lv' := [(2, .int (x2 + (1 : Int32))), (0, .ref (ad 49)), (1, .ref (ad 44)), (3, .int x3)]) S.1 S.2.1 dX0_copy_76 hl (k := 2) rfl rfl (by decide) rfl (fun ls hl => ?_)
        refine lv_goto (tgt := 18) S.1 S.2.1 dX0_copy_79 (by decide) ?_
        exact hk18 _ _ _ _ _ h hB (lv_sub hl [1, 2, 0] rfl)
      · replace h := (if_neg c_2).symm.trans h
        refine lv_aload_n S.1 S.2.1 dX0_copy_52 rfl (lv_at hl 0 rfl) ?_
        refine tg_49_1 S hK hB (S.2.2.2.2 _ (List.mem_cons_of_mem _ wf_X0_23)) dX0_copy_53 ?_
        refine lv_iload_n S.1 S.2.1 dX0_copy_56 rfl (lv_at hl 3 rfl) ?_
        refine lv_iload_n S.1 S.2.1 dX0_copy_57 rfl (lv_at hl 2 rfl) ?_
        refine lv_aload_n S.1 S.2.1 dX0_copy_58 rfl (lv_at hl 1 rfl) ?_
        refine tg_44_1 S hK hB (S.2.2.2.2 _ (List.mem_cons_of_mem _ wf_X0_23)) dX0_copy_59 ?_
        refine lv_iload_n S.1 S.2.1 dX0_copy_62 rfl (lv_at hl 3 rfl) ?_
        refine lv_iload_n S.1 S.2.1 dX0_copy_63 rfl (lv_at hl 2 rfl) ?_
        refine lg_47 (r := (getT 8 (σ1.2.2.2.2 0) x3 x2)) S hK cKSc hKS hA hB rfl (cwX0_42 S.2.2.2.2 (rm := { frames := 0, cells := 0, slots := 0, locals := 0 }) rfl rfl ⟨Nat.le_of_ble_eq_true rfl, Nat.le_of_ble_eq_true rfl⟩) hl.1 (lv_room (Nat.le_of_ble_eq_true rfl)) dX0_copy_64 ⟨Nat.zero_le _, Nat.zero_le _⟩ (fun H locs hB => ?_)
        refine lp_52 S hK cKSc hKS hA hB (cwX0_45 S.2.2.2.2 (rm := { frames := 0, cells := 0, slots := 0, locals := 0 }) rfl rfl ⟨Nat.le_of_ble_eq_true rfl, Nat.le_of_ble_eq_true rfl⟩) hl.1 (lv_room (Nat.le_of_ble_eq_true rfl)) dX0_copy_67 ⟨Nat.zero_le _, Nat.zero_le _⟩ (fun H locs hB => ?_)
        refine lv_iinc (v := (x3 + (1 : Int32))) (lv' := [(3, .int (x3 + (1 : Int32))), (0, .ref (ad 49)), (1, .ref (ad 44)), (2, .int x2)]) S.1 S.2.1 dX0_copy_70 hl (k := 3) rfl rfl (by decide) rfl (fun ls hl => ?_)
        refine lv_goto (tgt := 44) S.1 S.2.1 dX0_copy_73 (by decide) ?_
        exact ih _ _ _ _ _ _ h hB (lv_sub hl [1, 2, 3, 0] rfl)
  have P18 : ∀  (n : Nat), ∀ (x2 : Int32) (σ1 : CS) (H : Heap) (locs : List Loc) (ls : Array Slot), FX0_copy_18 L n x2 σ1 = some ((), σ') → gB D vwCl (va_A (CW cI cJ cQ ad ra σ) s.heap.size) s.heap (CW cI cJ cQ ad ra σ1) [] H locs → lv_has ls 4 [(0, .ref (ad 49)), (1, .ref (ad 44)), (2, .int x2)] → W p l e rmX0_copy s m args below meth c H locs 0 0 (MQ below (gQ D vwCl (CW cI cJ cQ ad ra σ) (CW cI cJ cQ ad ra σ') none s.heap.size) args s 0 0 (va_A (CW cI cJ cQ ad ra σ) s.heap.size)) (F0 m 18 ls []) := by
    intro n
    induction n with
    | zero => intro x2 σ1 H locs ls h; simp only [FX0_copy_18] at h; cases h
    | succ n ih =>
      intro x2 σ1 H locs ls h hB hl
      rw [FX0_copy_18] at h
      refine lv_iload_n S.1 S.2.1 dX0_copy_18 rfl (lv_at hl 2 rfl) ?_
      refine lv_aload_n S.1 S.2.1 dX0_copy_19 rfl (lv_at hl 0 rfl) ?_
      refine tg_49_2 S hK hB (S.2.2.2.2 _ (List.mem_cons_of_mem _ wf_X0_27)) rfl dX0_copy_20 ?_
      refine lv_icmp_ge (tgt := 82) S.1 S.2.1 dX0_copy_23 (by decide) (fun c_1 => ?_) (fun c_1 => ?_)
      · replace h := (if_pos c_1).symm.trans h
        cases h
        exact gRetV S.1 S.2.1 hr hlk hB dX0_copy_82
      · replace h := (if_neg c_1).symm.trans h
        refine lv_aload_n S.1 S.2.1 dX0_copy_26 rfl (lv_at hl 0 rfl) ?_
        refine tg_49_0 S hK hB (S.2.2.2.2 _ (List.mem_cons_of_mem _ wf_X0_14)) dX0_copy_27 ?_
        refine lv_iload_n S.1 S.2.1 dX0_copy_30 rfl (lv_at hl 2 rfl) ?_
        refine lv_aload_n S.1 S.2.1 dX0_copy_31 rfl (lv_at hl 1 rfl) ?_
        refine tg_44_0 S hK hB (S.2.2.2.2 _ (List.mem_cons_of_mem _ wf_X0_14)) dX0_copy_32 ?_
        refine lv_iload_n S.1 S.2.1 dX0_copy_35 rfl (lv_at hl 2 rfl) ?_
        refine lg_45 (r := (getI 120 (σ1.2.2.1 46) x2)) S hK cKSc hKS hA hB rfl (cwX0_31 S.2.2.2.2 (rm := { frames := 0, cells := 0, slots := 0, locals := 0 }) rfl rfl ⟨Nat.le_of_ble_eq_true rfl, Nat.le_of_ble_eq_true rfl⟩) hl.1 (lv_room (Nat.le_of_ble_eq_true rfl)) dX0_copy_36 ⟨Nat.zero_le _, Nat.zero_le _⟩ (fun H locs hB => ?_)
        refine lp_50 S hK cKSc hKS hA hB (cwX0_38 S.2.2.2.2 (rm := { frames := 0, cells := 0, slots := 0, locals := 0 }) rfl rfl ⟨Nat.le_of_ble_eq_true rfl, Nat.le_of_ble_eq_true rfl⟩) hl.1 (lv_room (Nat.le_of_ble_eq_true rfl)) dX0_copy_39 ⟨Nat.zero_le _, Nat.zero_le _⟩ (fun H locs hB => ?_)
        refine lv_iconst (v := (0 : Int32)) S.1 S.2.1 dX0_copy_42 (by decide) ?_
        refine lv_istore_n (lv' := [(3, .int (0 : Int32)), (0, .ref (ad 49)), (1, .ref (ad 44)), (2, .int x2)]) S.1 S.2.1 dX0_copy_43 rfl hl (by decide) rfl (fun ls hl => ?_)
        exact P44 (FX0_copy_18 L n) ih L _ _ _ _ _ _ h hB (lv_sub hl [1, 2, 3, 0] rfl)
  refine lv_aload_n S.1 S.2.1 dX0_copy_0 rfl (lv_at hl 0 rfl) ?_
  refine lv_aload_n S.1 S.2.1 dX0_copy_1 rfl (lv_at hl 1 rfl) ?_
  refine tg_44_2 S hK hB (S.2.2.2.2 _ (List.mem_cons_of_mem _ wf_X0_27)) rfl dX0_copy_2 ?_
  refine tp_49_2 S hK hB (S.2.2.2.2 _ (List.mem_cons_of_mem _ wf_X0_27)) dX0_copy_5 (fun H locs hB => ?_)
  refine lv_aload_n S.1 S.2.1 dX0_copy_8 rfl (lv_at hl 0 rfl) ?_
  refine lv_aload_n S.1 S.2.1 dX0_copy_9 rfl (lv_at hl 1 rfl) ?_
  refine tg_44_3 (v := (σ.1 4403)) S hK hB (S.2.2.2.2 _ (List.mem_cons_of_mem _ wf_X0_35)) rfl dX0_copy_10 ?_
  refine tp_49_3 S hK hB (S.2.2.2.2 _ (List.mem_cons_of_mem _ wf_X0_35)) dX0_copy_13 (fun H locs hB => ?_)
  refine lv_iconst (v := (0 : Int32)) S.1 S.2.1 dX0_copy_16 (by decide) ?_
  refine lv_istore_n (lv' := [(2, .int (0 : Int32)), (0, .ref (ad 49)), (1, .ref (ad 44))]) S.1 S.2.1 dX0_copy_17 rfl hl (by decide) rfl (fun ls hl => ?_)
  exact P18  L _ _ _ _ _ h hB (lv_sub hl [1, 2, 0] rfl)
def FX3_beginAt (p0 : Int32) (σ : CS) : Option (Unit × CS) :=
  some ((), (tI (tI σ 1307 p0) 1308 (p0 + (400 : Int32))))
abbrev rmX3_beginAt : Room := { frames := 0, cells := 0, slots := 0, locals := 0 }
set_option maxRecDepth 100000 in
set_option maxHeartbeats 4000000 in
theorem kX3_beginAt {l : Launch} {D : va_G} {cI cJ cQ : ClassId} {ad : Nat → Nat} {ra : Nat → Nat → Nat} {adK adV tK : Nat → Nat} {p0 : Int32} {σ σ' : CS} (h : FX3_beginAt p0 σ = some ((), σ')) : gMet l yX3_beginAt qX3_beginAt rmX3_beginAt 0 0 D vwCl [(cI, .int), (cJ, .long), (cQ, .array .long)] (cKS adK adV tK) [.ref (ad 13), .int p0] (CW cI cJ cQ ad ra σ) (CW cI cJ cQ ad ra σ') none := by
  refine gMet.of (cc := cX3_beginAt) (maxL := 2) (ret := none) (by decide) rfl (Nat.le_of_ble_eq_true rfl) ?_
  intro p e s m args below meth c S hr hlk hnm hK hKS hA hB ls hl
  have hl : lv_has ls 2 [(0, .ref (ad 13)), (1, .int p0)] := hl
  replace S : CallFix p m c cX3_beginAt 2 s args (_ :: wsL_law) RX3 := S
  rw [FX3_beginAt] at h
  refine lv_aload_n S.1 S.2.1 dX3_beginAt_0 rfl (lv_at hl 0 rfl) ?_
  refine lv_iload_n S.1 S.2.1 dX3_beginAt_1 rfl (lv_at hl 1 rfl) ?_
  refine tp_13_7 S hK hB (S.2.2.2.2 _ (List.mem_cons_of_mem _ wf_X3_38)) dX3_beginAt_2 (fun H locs hB => ?_)
  refine lv_aload_n S.1 S.2.1 dX3_beginAt_5 rfl (lv_at hl 0 rfl) ?_
  refine lv_iload_n S.1 S.2.1 dX3_beginAt_6 rfl (lv_at hl 1 rfl) ?_
  refine lv_sipush (v := (400 : Int32)) S.1 S.2.1 dX3_beginAt_7 (by decide) ?_
  refine lv_iadd S.1 S.2.1 dX3_beginAt_10 ?_
  refine tp_13_8 S hK hB (S.2.2.2.2 _ (List.mem_cons_of_mem _ wf_X3_42)) dX3_beginAt_11 (fun H locs hB => ?_)
  cases h
  exact gRetV S.1 S.2.1 hr hlk hB dX3_beginAt_14
def FX3_add (p0 : Int32) (p1 : Int32) (p2 : Int32) (p3 : Int32) (σ : CS) : Option (Int32 × CS) :=
  if (σ.1 1307) < (σ.1 1308) then
    some (σ.1 1307, (tA (tA (tA (tA (tA (tA (tA (tI σ 1307 ((σ.1 1307) + (1 : Int32))) 15 (putI 1200 (σ.2.2.1 15) (σ.1 1307) p0)) 17 (putI 1200 (σ.2.2.1 17) (σ.1 1307) p1)) 19 (putI 1200 (σ.2.2.1 19) (σ.1 1307) p2)) 21 (putI 1200 (σ.2.2.1 21) (σ.1 1307) p3)) 23 (putI 1200 (σ.2.2.1 23) (σ.1 1307) (-1 : Int32))) 25 (putI 1200 (σ.2.2.1 25) (σ.1 1307) (0 : Int32))) 27 (putI 1200 (σ.2.2.1 27) (σ.1 1307) (1000000 : Int32))))
  else
    some ((-1 : Int32), σ)
abbrev rmX3_add : Room := { frames := 1, cells := 0, slots := 0, locals := 22 }
set_option maxRecDepth 100000 in
set_option maxHeartbeats 4000000 in
theorem kX3_add {l : Launch} {D : va_G} {cI cJ cQ : ClassId} {ad : Nat → Nat} {ra : Nat → Nat → Nat} {adK adV tK : Nat → Nat} {p0 : Int32} {p1 : Int32} {p2 : Int32} {p3 : Int32} {σ σ' : CS} {r : Int32} (h : FX3_add p0 p1 p2 p3 σ = some (r, σ')) : gMet l yX3_add qX3_add rmX3_add 0 0 D vwCl [(cI, .int), (cJ, .long), (cQ, .array .long)] (cKS adK adV tK) [.ref (ad 13), .int p0, .int p1, .int p2, .int p3] (CW cI cJ cQ ad ra σ) (CW cI cJ cQ ad ra σ') (some (.int r)) := by
  refine gMet.of (cc := cX3_add) (maxL := 6) (ret := (some .int)) (by decide) rfl (Nat.le_of_ble_eq_true rfl) ?_
  intro p e s m args below meth c S hr hlk hnm hK hKS hA hB ls hl
  have hl : lv_has ls 6 [(0, .ref (ad 13)), (1, .int p0), (2, .int p1), (3, .int p2), (4, .int p3)] := hl
  replace S : CallFix p m c cX3_add 6 s args (_ :: wsL_law) RX3 := S
  rw [FX3_add] at h
  refine lv_aload_n S.1 S.2.1 dX3_add_0 rfl (lv_at hl 0 rfl) ?_
  refine tg_13_7 S hK hB (S.2.2.2.2 _ (List.mem_cons_of_mem _ wf_X3_38)) rfl dX3_add_1 ?_
  refine lv_aload_n S.1 S.2.1 dX3_add_4 rfl (lv_at hl 0 rfl) ?_
  refine tg_13_8 S hK hB (S.2.2.2.2 _ (List.mem_cons_of_mem _ wf_X3_42)) rfl dX3_add_5 ?_
  refine lv_icmp_lt (tgt := 13) S.1 S.2.1 dX3_add_8 (by decide) (fun c_1 => ?_) (fun c_1 => ?_)
  · replace h := (if_pos c_1).symm.trans h
    refine lv_aload_n S.1 S.2.1 dX3_add_13 rfl (lv_at hl 0 rfl) ?_
    refine tg_13_7 S hK hB (S.2.2.2.2 _ (List.mem_cons_of_mem _ wf_X3_38)) rfl dX3_add_14 ?_
    refine lv_istore (lv' := [(5, .int (σ.1 1307)), (0, .ref (ad 13)), (1, .int p0), (2, .int p1), (3, .int p2), (4, .int p3)]) S.1 S.2.1 dX3_add_17 hl (by decide) rfl (fun ls hl => ?_)
    refine lv_aload_n S.1 S.2.1 dX3_add_19 rfl (lv_at hl 1 rfl) ?_
    refine lv_dup S.1 S.2.1 dX3_add_20 rfl ?_
    refine tg_13_7 S hK hB (S.2.2.2.2 _ (List.mem_cons_of_mem _ wf_X3_38)) rfl dX3_add_21 ?_
    refine lv_iconst (v := (1 : Int32)) S.1 S.2.1 dX3_add_24 (by decide) ?_
    refine lv_iadd S.1 S.2.1 dX3_add_25 ?_
    refine tp_13_7 S hK hB (S.2.2.2.2 _ (List.mem_cons_of_mem _ wf_X3_38)) dX3_add_26 (fun H locs hB => ?_)
    refine lv_aload_n S.1 S.2.1 dX3_add_29 rfl (lv_at hl 1 rfl) ?_
    refine tg_13_0 S hK hB (S.2.2.2.2 _ (List.mem_cons_of_mem _ wf_X3_14)) dX3_add_30 ?_
    refine lv_iload S.1 S.2.1 dX3_add_33 (lv_at hl 0 rfl) ?_
    refine lv_iload_n S.1 S.2.1 dX3_add_35 rfl (lv_at hl 2 rfl) ?_
    refine lp_14 S hK cKSc hKS hA hB (cwX3_45 S.2.2.2.2 (rm := { frames := 0, cells := 0, slots := 0, locals := 0 }) rfl rfl ⟨Nat.le_of_ble_eq_true rfl, Nat.le_of_ble_eq_true rfl⟩) hl.1 (lv_room (Nat.le_of_ble_eq_true rfl)) dX3_add_36 ⟨Nat.zero_le _, Nat.zero_le _⟩ (fun H locs hB => ?_)
    refine lv_aload_n S.1 S.2.1 dX3_add_39 rfl (lv_at hl 1 rfl) ?_
    refine tg_13_1 S hK hB (S.2.2.2.2 _ (List.mem_cons_of_mem _ wf_X3_20)) dX3_add_40 ?_
    refine lv_iload S.1 S.2.1 dX3_add_43 (lv_at hl 0 rfl) ?_
    refine lv_iload_n S.1 S.2.1 dX3_add_45 rfl (lv_at hl 3 rfl) ?_
    refine lp_16 S hK cKSc hKS hA hB (cwX3_45 S.2.2.2.2 (rm := { frames := 0, cells := 0, slots := 0, locals := 0 }) rfl rfl ⟨Nat.le_of_ble_eq_true rfl, Nat.le_of_ble_eq_true rfl⟩) hl.1 (lv_room (Nat.le_of_ble_eq_true rfl)) dX3_add_46 ⟨Nat.zero_le _, Nat.zero_le _⟩ (fun H locs hB => ?_)
    refine lv_aload_n S.1 S.2.1 dX3_add_49 rfl (lv_at hl 1 rfl) ?_
    refine tg_13_2 S hK hB (S.2.2.2.2 _ (List.mem_cons_of_mem _ wf_X3_23)) dX3_add_50 ?_
    refine lv_iload S.1 S.2.1 dX3_add_53 (lv_at hl 0 rfl) ?_
    refine lv_iload_n S.1 S.2.1 dX3_add_55 rfl (lv_at hl 4 rfl) ?_
    refine lp_18 S hK cKSc hKS hA hB (cwX3_45 S.2.2.2.2 (rm := { frames := 0, cells := 0, slots := 0, locals := 0 }) rfl rfl ⟨Nat.le_of_ble_eq_true rfl, Nat.le_of_ble_eq_true rfl⟩) hl.1 (lv_room (Nat.le_of_ble_eq_true rfl)) dX3_add_56 ⟨Nat.zero_le _, Nat.zero_le _⟩ (fun H locs hB => ?_)
    refine lv_aload_n S.1 S.2.1 dX3_add_59 rfl (lv_at hl 1 rfl) ?_
    refine tg_13_3 S hK hB (S.2.2.2.2 _ (List.mem_cons_of_mem _ wf_X3_26)) dX3_add_60 ?_
    refine lv_iload S.1 S.2.1 dX3_add_63 (lv_at hl 0 rfl) ?_
    refine lv_iload S.1 S.2.1 dX3_add_65 (lv_at hl 5 rfl) ?_
    refine lp_20 S hK cKSc hKS hA hB (cwX3_45 S.2.2.2.2 (rm := { frames := 0, cells := 0, slots := 0, locals := 0 }) rfl rfl ⟨Nat.le_of_ble_eq_true rfl, Nat.le_of_ble_eq_true rfl⟩) hl.1 (lv_room (Nat.le_of_ble_eq_true rfl)) dX3_add_67 ⟨Nat.zero_le _, Nat.zero_le _⟩ (fun H locs hB => ?_)
    refine lv_aload_n S.1 S.2.1 dX3_add_70 rfl (lv_at hl 1 rfl) ?_
    refine tg_13_4 S hK hB (S.2.2.2.2 _ (List.mem_cons_of_mem _ wf_X3_29)) dX3_add_71 ?_
    refine lv_iload S.1 S.2.1 dX3_add_74 (lv_at hl 0 rfl) ?_
    refine lv_iconst (v := (-1 : Int32)) S.1 S.2.1 dX3_add_76 (by decide) ?_
    refine lp_22 S hK cKSc hKS hA hB (cwX3_45 S.2.2.2.2 (rm := { frames := 0, cells := 0, slots := 0, locals := 0 }) rfl rfl ⟨Nat.le_of_ble_eq_true rfl, Nat.le_of_ble_eq_true rfl⟩) hl.1 (lv_room (Nat.le_of_ble_eq_true rfl)) dX3_add_77 ⟨Nat.zero_le _, Nat.zero_le _⟩ (fun H locs hB => ?_)
    refine lv_aload_n S.1 S.2.1 dX3_add_80 rfl (lv_at hl 1 rfl) ?_
    refine tg_13_5 S hK hB (S.2.2.2.2 _ (List.mem_cons_of_mem _ wf_X3_32)) dX3_add_81 ?_
    refine lv_iload S.1 S.2.1 dX3_add_84 (lv_at hl 0 rfl) ?_
    refine lv_iconst (v := (0 : Int32)) S.1 S.2.1 dX3_add_86 (by decide) ?_
    refine lp_24 S hK cKSc hKS hA hB (cwX3_45 S.2.2.2.2 (rm := { frames := 0, cells := 0, slots := 0, locals := 0 }) rfl rfl ⟨Nat.le_of_ble_eq_true rfl, Nat.le_of_ble_eq_true rfl⟩) hl.1 (lv_room (Nat.le_of_ble_eq_true rfl)) dX3_add_87 ⟨Nat.zero_le _, Nat.zero_le _⟩ (fun H locs hB => ?_)
    refine lv_aload_n S.1 S.2.1 dX3_add_90 rfl (lv_at hl 1 rfl) ?_
    refine tg_13_6 S hK hB (S.2.2.2.2 _ (List.mem_cons_of_mem _ wf_X3_35)) dX3_add_91 ?_
    refine lv_iload S.1 S.2.1 dX3_add_94 (lv_at hl 0 rfl) ?_
    refine lv_ldc (v := 1000000) S.1 S.2.1 S.2.2.2.1 (S.2.2.2.2 _ (List.mem_cons_of_mem _ wc_X3_49)) dX3_add_96 ?_
    refine lp_26 S hK cKSc hKS hA hB (cwX3_45 S.2.2.2.2 (rm := { frames := 0, cells := 0, slots := 0, locals := 0 }) rfl rfl ⟨Nat.le_of_ble_eq_true rfl, Nat.le_of_ble_eq_true rfl⟩) hl.1 (lv_room (Nat.le_of_ble_eq_true rfl)) dX3_add_98 ⟨Nat.zero_le _, Nat.zero_le _⟩ (fun H locs hB => ?_)
    refine lv_iload S.1 S.2.1 dX3_add_101 (lv_at hl 0 rfl) ?_
    cases h
    exact gRetI S.1 S.2.1 hr hlk hB dX3_add_103
  · replace h := (if_neg c_1).symm.trans h
    refine lv_iconst (v := (-1 : Int32)) S.1 S.2.1 dX3_add_11 (by decide) ?_
    cases h
    exact gRetI S.1 S.2.1 hr hlk hB dX3_add_12
def FX3_bound (p0 : Int32) (p1 : Int32) (p2 : Int32) (σ : CS) : Option (Unit × CS) :=
  some ((), (tA (tA σ 25 (putI 1200 (σ.2.2.1 25) p0 p1)) 27 (putI 1200 (σ.2.2.1 27) p0 p2)))
abbrev rmX3_bound : Room := { frames := 1, cells := 0, slots := 0, locals := 22 }
set_option maxRecDepth 100000 in
set_option maxHeartbeats 4000000 in
theorem kX3_bound {l : Launch} {D : va_G} {cI cJ cQ : ClassId} {ad : Nat → Nat} {ra : Nat → Nat → Nat} {adK adV tK : Nat → Nat} {p0 : Int32} {p1 : Int32} {p2 : Int32} {σ σ' : CS} (h : FX3_bound p0 p1 p2 σ = some ((), σ')) : gMet l yX3_bound qX3_bound rmX3_bound 0 0 D vwCl [(cI, .int), (cJ, .long), (cQ, .array .long)] (cKS adK adV tK) [.ref (ad 13), .int p0, .int p1, .int p2] (CW cI cJ cQ ad ra σ) (CW cI cJ cQ ad ra σ') none := by
  refine gMet.of (cc := cX3_bound) (maxL := 4) (ret := none) (by decide) rfl (Nat.le_of_ble_eq_true rfl) ?_
  intro p e s m args below meth c S hr hlk hnm hK hKS hA hB ls hl
  have hl : lv_has ls 4 [(0, .ref (ad 13)), (1, .int p0), (2, .int p1), (3, .int p2)] := hl
  replace S : CallFix p m c cX3_bound 4 s args (_ :: wsL_law) RX3 := S
  rw [FX3_bound] at h
  refine lv_aload_n S.1 S.2.1 dX3_bound_0 rfl (lv_at hl 0 rfl) ?_
  refine tg_13_5 S hK hB (S.2.2.2.2 _ (List.mem_cons_of_mem _ wf_X3_32)) dX3_bound_1 ?_
  refine lv_iload_n S.1 S.2.1 dX3_bound_4 rfl (lv_at hl 1 rfl) ?_
  refine lv_iload_n S.1 S.2.1 dX3_bound_5 rfl (lv_at hl 2 rfl) ?_
  refine lp_24 S hK cKSc hKS hA hB (cwX3_45 S.2.2.2.2 (rm := { frames := 0, cells := 0, slots := 0, locals := 0 }) rfl rfl ⟨Nat.le_of_ble_eq_true rfl, Nat.le_of_ble_eq_true rfl⟩) hl.1 (lv_room (Nat.le_of_ble_eq_true rfl)) dX3_bound_6 ⟨Nat.zero_le _, Nat.zero_le _⟩ (fun H locs hB => ?_)
  refine lv_aload_n S.1 S.2.1 dX3_bound_9 rfl (lv_at hl 0 rfl) ?_
  refine tg_13_6 S hK hB (S.2.2.2.2 _ (List.mem_cons_of_mem _ wf_X3_35)) dX3_bound_10 ?_
  refine lv_iload_n S.1 S.2.1 dX3_bound_13 rfl (lv_at hl 1 rfl) ?_
  refine lv_iload_n S.1 S.2.1 dX3_bound_14 rfl (lv_at hl 3 rfl) ?_
  refine lp_26 S hK cKSc hKS hA hB (cwX3_45 S.2.2.2.2 (rm := { frames := 0, cells := 0, slots := 0, locals := 0 }) rfl rfl ⟨Nat.le_of_ble_eq_true rfl, Nat.le_of_ble_eq_true rfl⟩) hl.1 (lv_room (Nat.le_of_ble_eq_true rfl)) dX3_bound_15 ⟨Nat.zero_le _, Nat.zero_le _⟩ (fun H locs hB => ?_)
  cases h
  exact gRetV S.1 S.2.1 hr hlk hB dX3_bound_18
def FX5_clear_17 (L : Nat)  : Nat → Int32 → CS → Option (Unit × CS)
  | 0, _, _ => none
  | n+1, x1, σ1 =>
    if (3 : Int32) < x1 then
      some ((), σ1)
    else
      (FX5_clear_17 L n) (x1 + (1 : Int32)) (tA σ1 36 (putI 4 (σ1.2.2.1 36) x1 (0 : Int32)))
def FX5_clear (L : Nat)  (σ : CS) : Option (Unit × CS) :=
  FX5_clear_17 L L (0 : Int32) (tI (tI (tI σ 2807 (0 : Int32)) 2808 (0 : Int32)) 2809 (0 : Int32))
abbrev rmX5_clear : Room := { frames := 1, cells := 0, slots := 0, locals := 22 }
set_option maxRecDepth 100000 in
set_option maxHeartbeats 4000000 in
theorem kX5_clear {l : Launch} {D : va_G} {cI cJ cQ : ClassId} {ad : Nat → Nat} {ra : Nat → Nat → Nat} {adK adV tK : Nat → Nat} {L : Nat}  {σ σ' : CS} (h : FX5_clear L  σ = some ((), σ')) : gMet l yX5_clear qX5_clear rmX5_clear 0 0 D vwCl [(cI, .int), (cJ, .long), (cQ, .array .long)] (cKS adK adV tK) [.ref (ad 28)] (CW cI cJ cQ ad ra σ) (CW cI cJ cQ ad ra σ') none := by
  refine gMet.of (cc := cX5_clear) (maxL := 2) (ret := none) (by decide) rfl (Nat.le_of_ble_eq_true rfl) ?_
  intro p e s m args below meth c S hr hlk hnm hK hKS hA hB ls hl
  have hl : lv_has ls 2 [(0, .ref (ad 28))] := hl
  replace S : CallFix p m c cX5_clear 2 s args (_ :: wsL_law) RX5 := S
  rw [FX5_clear] at h
  have P17 : ∀  (n : Nat), ∀ (x1 : Int32) (σ1 : CS) (H : Heap) (locs : List Loc) (ls : Array Slot), FX5_clear_17 L n x1 σ1 = some ((), σ') → gB D vwCl (va_A (CW cI cJ cQ ad ra σ) s.heap.size) s.heap (CW cI cJ cQ ad ra σ1) [] H locs → lv_has ls 2 [(0, .ref (ad 28)), (1, .int x1)] → W p l e rmX5_clear s m args below meth c H locs 0 0 (MQ below (gQ D vwCl (CW cI cJ cQ ad ra σ) (CW cI cJ cQ ad ra σ') none s.heap.size) args s 0 0 (va_A (CW cI cJ cQ ad ra σ) s.heap.size)) (F0 m 17 ls []) := by
    intro n
    induction n with
    | zero => intro x1 σ1 H locs ls h; simp only [FX5_clear_17] at h; cases h
    | succ n ih =>
      intro x1 σ1 H locs ls h hB hl
      rw [FX5_clear_17] at h
      refine lv_iload_n S.1 S.2.1 dX5_clear_17 rfl (lv_at hl 1 rfl) ?_
      refine lv_iconst (v := (3 : Int32)) S.1 S.2.1 dX5_clear_18 (by decide) ?_
      refine lv_icmp_gt (tgt := 37) S.1 S.2.1 dX5_clear_19 (by decide) (fun c_1 => ?_) (fun c_1 => ?_)
      · replace h := (if_pos c_1).symm.trans h
        cases h
        exact gRetV S.1 S.2.1 hr hlk hB dX5_clear_37
      · replace h := (if_neg c_1).symm.trans h
        refine lv_aload_n S.1 S.2.1 dX5_clear_22 rfl (lv_at hl 0 rfl) ?_
        refine tg_28_3 S hK hB (S.2.2.2.2 _ (List.mem_cons_of_mem _ wf_X5_30)) dX5_clear_23 ?_
        refine lv_iload_n S.1 S.2.1 dX5_clear_26 rfl (lv_at hl 1 rfl) ?_
        refine lv_iconst (v := (0 : Int32)) S.1 S.2.1 dX5_clear_27 (by decide) ?_
        refine lp_35 S hK cKSc hKS hA hB (cwX5_53 S.2.2.2.2 (rm := { frames := 0, cells := 0, slots := 0, locals := 0 }) rfl rfl ⟨Nat.le_of_ble_eq_true rfl, Nat.le_of_ble_eq_true rfl⟩) hl.1 (lv_room (Nat.le_of_ble_eq_true rfl)) dX5_clear_28 ⟨Nat.zero_le _, Nat.zero_le _⟩ (fun H locs hB => ?_)
        refine lv_iinc (v := (x1 + (1 : Int32))) (lv' := [(1, .int (x1 + (1 : Int32))), (0, .ref (ad 28))]) S.1 S.2.1 dX5_clear_31 hl (k := 1) rfl rfl (by decide) rfl (fun ls hl => ?_)
        refine lv_goto (tgt := 17) S.1 S.2.1 dX5_clear_34 (by decide) ?_
        exact ih _ _ _ _ _ h hB (lv_sub hl [1, 0] rfl)
  refine lv_aload_n S.1 S.2.1 dX5_clear_0 rfl (lv_at hl 0 rfl) ?_
  refine lv_iconst (v := (0 : Int32)) S.1 S.2.1 dX5_clear_1 (by decide) ?_
  refine tp_28_7 S hK hB (S.2.2.2.2 _ (List.mem_cons_of_mem _ wf_X5_42)) dX5_clear_2 (fun H locs hB => ?_)
  refine lv_aload_n S.1 S.2.1 dX5_clear_5 rfl (lv_at hl 0 rfl) ?_
  refine lv_iconst (v := (0 : Int32)) S.1 S.2.1 dX5_clear_6 (by decide) ?_
  refine tp_28_8 S hK hB (S.2.2.2.2 _ (List.mem_cons_of_mem _ wf_X5_46)) rfl rfl dX5_clear_7 (fun H locs hB => ?_)
  refine lv_aload_n S.1 S.2.1 dX5_clear_10 rfl (lv_at hl 0 rfl) ?_
  refine lv_iconst (v := (0 : Int32)) S.1 S.2.1 dX5_clear_11 (by decide) ?_
  refine tp_28_9 S hK hB (S.2.2.2.2 _ (List.mem_cons_of_mem _ wf_X5_50)) dX5_clear_12 (fun H locs hB => ?_)
  refine lv_iconst (v := (0 : Int32)) S.1 S.2.1 dX5_clear_15 (by decide) ?_
  refine lv_istore_n (lv' := [(1, .int (0 : Int32)), (0, .ref (ad 28))]) S.1 S.2.1 dX5_clear_16 rfl hl (by decide) rfl (fun ls hl => ?_)
  exact P17  L _ _ _ _ _ h hB (lv_sub hl [1, 0] rfl)
def FX5_isFull (p0 : Int32) (σ : CS) : Option (Int32 × CS) :=
  if p0 = 0 then
    if (getI 4 (σ.2.2.1 36) p0) < (8 : Int32) then
      some ((0 : Int32), σ)
    else
      some ((1 : Int32), σ)
  else
    if (getI 4 (σ.2.2.1 36) p0) < (12 : Int32) then
      some ((0 : Int32), σ)
    else
      some ((1 : Int32), σ)
abbrev rmX5_isFull : Room := { frames := 1, cells := 0, slots := 0, locals := 21 }
set_option maxRecDepth 100000 in
set_option maxHeartbeats 4000000 in
theorem kX5_isFull {l : Launch} {D : va_G} {cI cJ cQ : ClassId} {ad : Nat → Nat} {ra : Nat → Nat → Nat} {adK adV tK : Nat → Nat} {p0 : Int32} {σ σ' : CS} {r : Int32} (h : FX5_isFull p0 σ = some (r, σ')) : gMet l yX5_isFull qX5_isFull rmX5_isFull 0 0 D vwCl [(cI, .int), (cJ, .long), (cQ, .array .long)] (cKS adK adV tK) [.ref (ad 28), .int p0] (CW cI cJ cQ ad ra σ) (CW cI cJ cQ ad ra σ') (some (.int r)) := by
  refine gMet.of (cc := cX5_isFull) (maxL := 2) (ret := (some .boolean)) (by decide) rfl (Nat.le_of_ble_eq_true rfl) ?_
  intro p e s m args below meth c S hr hlk hnm hK hKS hA hB ls hl
  have hl : lv_has ls 2 [(0, .ref (ad 28)), (1, .int p0)] := hl
  replace S : CallFix p m c cX5_isFull 2 s args (_ :: wsL_law) RX5 := S
  rw [FX5_isFull] at h
  refine lv_aload_n S.1 S.2.1 dX5_isFull_0 rfl (lv_at hl 0 rfl) ?_
  refine tg_28_3 S hK hB (S.2.2.2.2 _ (List.mem_cons_of_mem _ wf_X5_30)) dX5_isFull_1 ?_
  refine lv_iload_n S.1 S.2.1 dX5_isFull_4 rfl (lv_at hl 1 rfl) ?_
  refine lg_35 (r := (getI 4 (σ.2.2.1 36) p0)) S hK cKSc hKS hA hB rfl (cwX5_57 S.2.2.2.2 (rm := { frames := 0, cells := 0, slots := 0, locals := 0 }) rfl rfl ⟨Nat.le_of_ble_eq_true rfl, Nat.le_of_ble_eq_true rfl⟩) hl.1 (lv_room (Nat.le_of_ble_eq_true rfl)) dX5_isFull_5 ⟨Nat.zero_le _, Nat.zero_le _⟩ (fun H locs hB => ?_)
  refine lv_iload_n S.1 S.2.1 dX5_isFull_8 rfl (lv_at hl 1 rfl) ?_
  refine lv_if_ne (tgt := 17) S.1 S.2.1 dX5_isFull_9 (by decide) (fun c_1 => ?_) (fun c_1 => ?_)
  · replace h := (if_neg c_1).symm.trans h
    refine lv_bipush (v := (12 : Int32)) S.1 S.2.1 dX5_isFull_17 (by decide) ?_
    refine lv_icmp_lt (tgt := 26) S.1 S.2.1 dX5_isFull_19 (by decide) (fun c_2 => ?_) (fun c_2 => ?_)
    · replace h := (if_pos c_2).symm.trans h
      refine lv_iconst (v := (0 : Int32)) S.1 S.2.1 dX5_isFull_26 (by decide) ?_
      cases h
      exact gRetZ S.1 S.2.1 hr hlk hB rfl dX5_isFull_27
    · replace h := (if_neg c_2).symm.trans h
      refine lv_iconst (v := (1 : Int32)) S.1 S.2.1 dX5_isFull_22 (by decide) ?_
      refine lv_goto (tgt := 27) S.1 S.2.1 dX5_isFull_23 (by decide) ?_
      cases h
      exact gRetZ S.1 S.2.1 hr hlk hB rfl dX5_isFull_27
  · replace h := (if_pos c_1).symm.trans h
    refine lv_bipush (v := (8 : Int32)) S.1 S.2.1 dX5_isFull_12 (by decide) ?_
    refine lv_goto (tgt := 19) S.1 S.2.1 dX5_isFull_14 (by decide) ?_
    refine lv_icmp_lt (tgt := 26) S.1 S.2.1 dX5_isFull_19 (by decide) (fun c_3 => ?_) (fun c_3 => ?_)
    · replace h := (if_pos c_3).symm.trans h
      refine lv_iconst (v := (0 : Int32)) S.1 S.2.1 dX5_isFull_26 (by decide) ?_
      cases h
      exact gRetZ S.1 S.2.1 hr hlk hB rfl dX5_isFull_27
    · replace h := (if_neg c_3).symm.trans h
      refine lv_iconst (v := (1 : Int32)) S.1 S.2.1 dX5_isFull_22 (by decide) ?_
      refine lv_goto (tgt := 27) S.1 S.2.1 dX5_isFull_23 (by decide) ?_
      cases h
      exact gRetZ S.1 S.2.1 hr hlk hB rfl dX5_isFull_27
def FX5_find_2 (L : Nat)  : Nat → Int64 → Int32 → CS → Option (Int32 × CS)
  | 0, _, _, _ => none
  | n+1, x1, x3, σ1 =>
    if (σ1.1 2807) ≤ x3 then
      some ((-1 : Int32), σ1)
    else
      if (getL 44 (σ1.2.2.2.1 30) x3) = x1 then
        some (x3, σ1)
      else
        (FX5_find_2 L n) x1 (x3 + (1 : Int32)) σ1
def FX5_find (L : Nat) (p0 : Int64) (σ : CS) : Option (Int32 × CS) :=
  FX5_find_2 L L p0 (0 : Int32) σ
abbrev rmX5_find : Room := { frames := 1, cells := 0, slots := 0, locals := 21 }
set_option maxRecDepth 100000 in
set_option maxHeartbeats 4000000 in
theorem kX5_find {l : Launch} {D : va_G} {cI cJ cQ : ClassId} {ad : Nat → Nat} {ra : Nat → Nat → Nat} {adK adV tK : Nat → Nat} {L : Nat} {p0 : Int64} {σ σ' : CS} {r : Int32} (h : FX5_find L p0 σ = some (r, σ')) : gMet l yX5_find qX5_find rmX5_find 0 0 D vwCl [(cI, .int), (cJ, .long), (cQ, .array .long)] (cKS adK adV tK) [.ref (ad 28), .long p0] (CW cI cJ cQ ad ra σ) (CW cI cJ cQ ad ra σ') (some (.int r)) := by
  refine gMet.of (cc := cX5_find) (maxL := 4) (ret := (some .int)) (by decide) rfl (Nat.le_of_ble_eq_true rfl) ?_
  intro p e s m args below meth c S hr hlk hnm hK hKS hA hB ls hl
  have hl : lv_has ls 4 [(0, .ref (ad 28)), (1, .long p0)] := hl
  replace S : CallFix p m c cX5_find 4 s args (_ :: wsL_law) RX5 := S
  rw [FX5_find] at h
  have P2 : ∀  (n : Nat), ∀ (x1 : Int64) (x3 : Int32) (σ1 : CS) (H : Heap) (locs : List Loc) (ls : Array Slot), FX5_find_2 L n x1 x3 σ1 = some (r, σ') → gB D vwCl (va_A (CW cI cJ cQ ad ra σ) s.heap.size) s.heap (CW cI cJ cQ ad ra σ1) [] H locs → lv_has ls 4 [(0, .ref (ad 28)), (1, .long x1), (3, .int x3)] → W p l e rmX5_find s m args below meth c H locs 0 0 (MQ below (gQ D vwCl (CW cI cJ cQ ad ra σ) (CW cI cJ cQ ad ra σ') (some (.int r)) s.heap.size) args s 0 0 (va_A (CW cI cJ cQ ad ra σ) s.heap.size)) (F0 m 2 ls []) := by
    intro n
    induction n with
    | zero => intro x1 x3 σ1 H locs ls h; simp only [FX5_find_2] at h; cases h
    | succ n ih =>
      intro x1 x3 σ1 H locs ls h hB hl
      rw [FX5_find_2] at h
      refine lv_iload_n S.1 S.2.1 dX5_find_2 rfl (lv_at hl 2 rfl) ?_
      refine lv_aload_n S.1 S.2.1 dX5_find_3 rfl (lv_at hl 0 rfl) ?_
      refine tg_28_7 S hK hB (S.2.2.2.2 _ (List.mem_cons_of_mem _ wf_X5_42)) rfl dX5_find_4 ?_
      refine lv_icmp_ge (tgt := 31) S.1 S.2.1 dX5_find_7 (by decide) (fun c_1 => ?_) (fun c_1 => ?_)
      · replace h := (if_pos c_1).symm.trans h
        refine lv_iconst (v := (-1 : Int32)) S.1 S.2.1 dX5_find_31 (by decide) ?_
        cases h
        exact gRetI S.1 S.2.1 hr hlk hB dX5_find_32
      · replace h := (if_neg c_1).symm.trans h
        refine lv_aload_n S.1 S.2.1 dX5_find_10 rfl (lv_at hl 0 rfl) ?_
        refine tg_28_0 S hK hB (S.2.2.2.2 _ (List.mem_cons_of_mem _ wf_X5_14)) dX5_find_11 ?_
        refine lv_iload_n S.1 S.2.1 dX5_find_14 rfl (lv_at hl 2 rfl) ?_
        refine lg_29 (r := (getL 44 (σ1.2.2.2.1 30) x3)) S hK cKSc hKS hA hB rfl (cwX5_61 S.2.2.2.2 (rm := { frames := 0, cells := 0, slots := 0, locals := 0 }) rfl rfl ⟨Nat.le_of_ble_eq_true rfl, Nat.le_of_ble_eq_true rfl⟩) hl.1 (lv_room (Nat.le_of_ble_eq_true rfl)) dX5_find_15 ⟨Nat.zero_le _, Nat.zero_le _⟩ (fun H locs hB => ?_)
        refine lv_lload_n S.1 S.2.1 dX5_find_18 rfl (lv_at hl 1 rfl) ?_
        refine W.lcmp S.1 S.2.1 dX5_find_19 ?_
        refine lv_if_ne (tgt := 25) S.1 S.2.1 dX5_find_20 (by decide) (fun c_2 => ?_) (fun c_2 => ?_)
        · replace c_2 := (not_congr lc_eq).mp c_2
          replace h := (if_neg c_2).symm.trans h
          refine lv_iinc (v := (x3 + (1 : Int32))) (lv' := [(3, .int (x3 + (1 : Int32))), (0, .ref (ad 28)), (1, .long x1)]) S.1 S.2.1 dX5_find_25 hl (k := 2) rfl rfl (by decide) rfl (fun ls hl => ?_)
          refine lv_goto (tgt := 2) S.1 S.2.1 dX5_find_28 (by decide) ?_
          exact ih _ _ _ _ _ _ h hB (lv_sub hl [1, 2, 0] rfl)
        · replace c_2 := lc_eq.mp c_2
          replace h := (if_pos c_2).symm.trans h
          refine lv_iload_n S.1 S.2.1 dX5_find_23 rfl (lv_at hl 2 rfl) ?_
          cases h
          exact gRetI S.1 S.2.1 hr hlk hB dX5_find_24
  refine lv_iconst (v := (0 : Int32)) S.1 S.2.1 dX5_find_0 (by decide) ?_
  refine lv_istore_n (lv' := [(3, .int (0 : Int32)), (0, .ref (ad 28)), (1, .long p0)]) S.1 S.2.1 dX5_find_1 rfl hl (by decide) rfl (fun ls hl => ?_)
  exact P2  L _ _ _ _ _ _ h hB (lv_sub hl [1, 2, 0] rfl)
def FX5_sortOf (p0 : Int32) (σ : CS) : Option (Int32 × CS) :=
  if p0 = (-1 : Int32) then
    some ((-1 : Int32), σ)
  else
    some ((getI 44 (σ.2.2.1 32) p0), σ)
abbrev rmX5_sortOf : Room := { frames := 1, cells := 0, slots := 0, locals := 21 }
set_option maxRecDepth 100000 in
set_option maxHeartbeats 4000000 in
theorem kX5_sortOf {l : Launch} {D : va_G} {cI cJ cQ : ClassId} {ad : Nat → Nat} {ra : Nat → Nat → Nat} {adK adV tK : Nat → Nat} {p0 : Int32} {σ σ' : CS} {r : Int32} (h : FX5_sortOf p0 σ = some (r, σ')) : gMet l yX5_sortOf qX5_sortOf rmX5_sortOf 0 0 D vwCl [(cI, .int), (cJ, .long), (cQ, .array .long)] (cKS adK adV tK) [.ref (ad 28), .int p0] (CW cI cJ cQ ad ra σ) (CW cI cJ cQ ad ra σ') (some (.int r)) := by
  refine gMet.of (cc := cX5_sortOf) (maxL := 2) (ret := (some .int)) (by decide) rfl (Nat.le_of_ble_eq_true rfl) ?_
  intro p e s m args below meth c S hr hlk hnm hK hKS hA hB ls hl
  have hl : lv_has ls 2 [(0, .ref (ad 28)), (1, .int p0)] := hl
  replace S : CallFix p m c cX5_sortOf 2 s args (_ :: wsL_law) RX5 := S
  rw [FX5_sortOf] at h
  refine lv_iload_n S.1 S.2.1 dX5_sortOf_0 rfl (lv_at hl 1 rfl) ?_
  refine lv_iconst (v := (-1 : Int32)) S.1 S.2.1 dX5_sortOf_1 (by decide) ?_
  refine lv_icmp_ne (tgt := 9) S.1 S.2.1 dX5_sortOf_2 (by decide) (fun c_1 => ?_) (fun c_1 => ?_)
  · replace h := (if_neg c_1).symm.trans h
    refine lv_aload_n S.1 S.2.1 dX5_sortOf_9 rfl (lv_at hl 0 rfl) ?_
    refine tg_28_1 S hK hB (S.2.2.2.2 _ (List.mem_cons_of_mem _ wf_X5_23)) dX5_sortOf_10 ?_
    refine lv_iload_n S.1 S.2.1 dX5_sortOf_13 rfl (lv_at hl 1 rfl) ?_
    refine lg_31 (r := (getI 44 (σ.2.2.1 32) p0)) S hK cKSc hKS hA hB rfl (cwX5_57 S.2.2.2.2 (rm := { frames := 0, cells := 0, slots := 0, locals := 0 }) rfl rfl ⟨Nat.le_of_ble_eq_true rfl, Nat.le_of_ble_eq_true rfl⟩) hl.1 (lv_room (Nat.le_of_ble_eq_true rfl)) dX5_sortOf_14 ⟨Nat.zero_le _, Nat.zero_le _⟩ (fun H locs hB => ?_)
    cases h
    exact gRetI S.1 S.2.1 hr hlk hB dX5_sortOf_17
  · replace h := (if_pos c_1).symm.trans h
    refine lv_iconst (v := (-1 : Int32)) S.1 S.2.1 dX5_sortOf_5 (by decide) ?_
    refine lv_goto (tgt := 17) S.1 S.2.1 dX5_sortOf_6 (by decide) ?_
    cases h
    exact gRetI S.1 S.2.1 hr hlk hB dX5_sortOf_17
def FX5_add (p0 : Int64) (p1 : Int32) (p2 : Int32) (σ : CS) : Option (Unit × CS) :=
  some ((), (tA (tA (tI (tA (tA (tB σ 30 (putL 44 (σ.2.2.2.1 30) (σ.1 2807) p0)) 32 (putI 44 (σ.2.2.1 32) (σ.1 2807) p1)) 34 (putI 44 (σ.2.2.1 34) (σ.1 2807) p2)) 2807 ((σ.1 2807) + (1 : Int32))) 38 (putI 48 (σ.2.2.1 38) ((p1 * (12 : Int32)) + (getI 4 (σ.2.2.1 36) p1)) p2)) 36 (putI 4 (σ.2.2.1 36) p1 ((getI 4 (σ.2.2.1 36) p1) + (1 : Int32)))))
abbrev rmX5_add : Room := { frames := 1, cells := 0, slots := 0, locals := 23 }
set_option maxRecDepth 100000 in
set_option maxHeartbeats 4000000 in
theorem kX5_add {l : Launch} {D : va_G} {cI cJ cQ : ClassId} {ad : Nat → Nat} {ra : Nat → Nat → Nat} {adK adV tK : Nat → Nat} {p0 : Int64} {p1 : Int32} {p2 : Int32} {σ σ' : CS} (h : FX5_add p0 p1 p2 σ = some ((), σ')) : gMet l yX5_add qX5_add rmX5_add 0 0 D vwCl [(cI, .int), (cJ, .long), (cQ, .array .long)] (cKS adK adV tK) [.ref (ad 28), .long p0, .int p1, .int p2] (CW cI cJ cQ ad ra σ) (CW cI cJ cQ ad ra σ') none := by
  refine gMet.of (cc := cX5_add) (maxL := 6) (ret := none) (by decide) rfl (Nat.le_of_ble_eq_true rfl) ?_
  intro p e s m args below meth c S hr hlk hnm hK hKS hA hB ls hl
  have hl : lv_has ls 6 [(0, .ref (ad 28)), (1, .long p0), (3, .int p1), (4, .int p2)] := hl
  replace S : CallFix p m c cX5_add 6 s args (_ :: wsL_law) RX5 := S
  rw [FX5_add] at h
  refine lv_aload_n S.1 S.2.1 dX5_add_0 rfl (lv_at hl 0 rfl) ?_
  refine tg_28_0 S hK hB (S.2.2.2.2 _ (List.mem_cons_of_mem _ wf_X5_14)) dX5_add_1 ?_
  refine lv_aload_n S.1 S.2.1 dX5_add_4 rfl (lv_at hl 0 rfl) ?_
  refine tg_28_7 S hK hB (S.2.2.2.2 _ (List.mem_cons_of_mem _ wf_X5_42)) rfl dX5_add_5 ?_
  refine lv_lload_n S.1 S.2.1 dX5_add_8 rfl (lv_at hl 1 rfl) ?_
  refine lp_29 S hK cKSc hKS hA hB (cwX5_64 S.2.2.2.2 (rm := { frames := 0, cells := 0, slots := 0, locals := 0 }) rfl rfl ⟨Nat.le_of_ble_eq_true rfl, Nat.le_of_ble_eq_true rfl⟩) hl.1 (lv_room (Nat.le_of_ble_eq_true rfl)) dX5_add_9 ⟨Nat.zero_le _, Nat.zero_le _⟩ (fun H locs hB => ?_)
  refine lv_aload_n S.1 S.2.1 dX5_add_12 rfl (lv_at hl 0 rfl) ?_
  refine tg_28_1 S hK hB (S.2.2.2.2 _ (List.mem_cons_of_mem _ wf_X5_23)) dX5_add_13 ?_
  refine lv_aload_n S.1 S.2.1 dX5_add_16 rfl (lv_at hl 0 rfl) ?_
  refine tg_28_7 (v := (σ.1 2807)) S hK hB (S.2.2.2.2 _ (List.mem_cons_of_mem _ wf_X5_42)) rfl dX5_add_17 ?_
  refine lv_iload_n S.1 S.2.1 dX5_add_20 rfl (lv_at hl 2 rfl) ?_
  refine lp_31 S hK cKSc hKS hA hB (cwX5_53 S.2.2.2.2 (rm := { frames := 0, cells := 0, slots := 0, locals := 0 }) rfl rfl ⟨Nat.le_of_ble_eq_true rfl, Nat.le_of_ble_eq_true rfl⟩) hl.1 (lv_room (Nat.le_of_ble_eq_true rfl)) dX5_add_21 ⟨Nat.zero_le _, Nat.zero_le _⟩ (fun H locs hB => ?_)
  refine lv_aload_n S.1 S.2.1 dX5_add_24 rfl (lv_at hl 0 rfl) ?_
  refine tg_28_2 S hK hB (S.2.2.2.2 _ (List.mem_cons_of_mem _ wf_X5_27)) dX5_add_25 ?_
  refine lv_aload_n S.1 S.2.1 dX5_add_28 rfl (lv_at hl 0 rfl) ?_
  refine tg_28_7 (v := (σ.1 2807)) S hK hB (S.2.2.2.2 _ (List.mem_cons_of_mem _ wf_X5_42)) rfl dX5_add_29 ?_
  refine lv_iload S.1 S.2.1 dX5_add_32 (lv_at hl 3 rfl) ?_
  refine lp_33 S hK cKSc hKS hA hB (cwX5_53 S.2.2.2.2 (rm := { frames := 0, cells := 0, slots := 0, locals := 0 }) rfl rfl ⟨Nat.le_of_ble_eq_true rfl, Nat.le_of_ble_eq_true rfl⟩) hl.1 (lv_room (Nat.le_of_ble_eq_true rfl)) dX5_add_34 ⟨Nat.zero_le _, Nat.zero_le _⟩ (fun H locs hB => ?_)
  refine lv_aload_n S.1 S.2.1 dX5_add_37 rfl (lv_at hl 0 rfl) ?_
  refine lv_dup S.1 S.2.1 dX5_add_38 rfl ?_
  refine tg_28_7 (v := (σ.1 2807)) S hK hB (S.2.2.2.2 _ (List.mem_cons_of_mem _ wf_X5_42)) rfl dX5_add_39 ?_
  refine lv_iconst (v := (1 : Int32)) S.1 S.2.1 dX5_add_42 (by decide) ?_
  refine lv_iadd S.1 S.2.1 dX5_add_43 ?_
  refine tp_28_7 S hK hB (S.2.2.2.2 _ (List.mem_cons_of_mem _ wf_X5_42)) dX5_add_44 (fun H locs hB => ?_)
  refine lv_aload_n S.1 S.2.1 dX5_add_47 rfl (lv_at hl 0 rfl) ?_
  refine tg_28_3 S hK hB (S.2.2.2.2 _ (List.mem_cons_of_mem _ wf_X5_30)) dX5_add_48 ?_
  refine lv_iload_n S.1 S.2.1 dX5_add_51 rfl (lv_at hl 2 rfl) ?_
  refine lg_35 (r := (getI 4 (σ.2.2.1 36) p1)) S hK cKSc hKS hA hB rfl (cwX5_57 S.2.2.2.2 (rm := { frames := 0, cells := 0, slots := 0, locals := 0 }) rfl rfl ⟨Nat.le_of_ble_eq_true rfl, Nat.le_of_ble_eq_true rfl⟩) hl.1 (lv_room (Nat.le_of_ble_eq_true rfl)) dX5_add_52 ⟨Nat.zero_le _, Nat.zero_le _⟩ (fun H locs hB => ?_)
  refine lv_istore (lv' := [(5, .int (getI 4 (σ.2.2.1 36) p1)), (0, .ref (ad 28)), (1, .long p0), (3, .int p1), (4, .int p2)]) S.1 S.2.1 dX5_add_55 hl (by decide) rfl (fun ls hl => ?_)
  refine lv_aload_n S.1 S.2.1 dX5_add_57 rfl (lv_at hl 1 rfl) ?_
  refine tg_28_4 S hK hB (S.2.2.2.2 _ (List.mem_cons_of_mem _ wf_X5_33)) dX5_add_58 ?_
  refine lv_iload_n S.1 S.2.1 dX5_add_61 rfl (lv_at hl 3 rfl) ?_
  refine lv_bipush (v := (12 : Int32)) S.1 S.2.1 dX5_add_62 (by decide) ?_
  refine lv_imul S.1 S.2.1 dX5_add_64 ?_
  refine lv_iload S.1 S.2.1 dX5_add_65 (lv_at hl 0 rfl) ?_
  refine lv_iadd S.1 S.2.1 dX5_add_67 ?_
  refine lv_iload S.1 S.2.1 dX5_add_68 (lv_at hl 4 rfl) ?_
  refine lp_37 S hK cKSc hKS hA hB (cwX5_53 S.2.2.2.2 (rm := { frames := 0, cells := 0, slots := 0, locals := 0 }) rfl rfl ⟨Nat.le_of_ble_eq_true rfl, Nat.le_of_ble_eq_true rfl⟩) hl.1 (lv_room (Nat.le_of_ble_eq_true rfl)) dX5_add_70 ⟨Nat.zero_le _, Nat.zero_le _⟩ (fun H locs hB => ?_)
  refine lv_aload_n S.1 S.2.1 dX5_add_73 rfl (lv_at hl 1 rfl) ?_
  refine tg_28_3 S hK hB (S.2.2.2.2 _ (List.mem_cons_of_mem _ wf_X5_30)) dX5_add_74 ?_
  refine lv_iload_n S.1 S.2.1 dX5_add_77 rfl (lv_at hl 3 rfl) ?_
  refine lv_iload S.1 S.2.1 dX5_add_78 (lv_at hl 0 rfl) ?_
  refine lv_iconst (v := (1 : Int32)) S.1 S.2.1 dX5_add_80 (by decide) ?_
  refine lv_iadd S.1 S.2.1 dX5_add_81 ?_
  refine lp_35 S hK cKSc hKS hA hB (cwX5_53 S.2.2.2.2 (rm := { frames := 0, cells := 0, slots := 0, locals := 0 }) rfl rfl ⟨Nat.le_of_ble_eq_true rfl, Nat.le_of_ble_eq_true rfl⟩) hl.1 (lv_room (Nat.le_of_ble_eq_true rfl)) dX5_add_82 ⟨Nat.zero_le _, Nat.zero_le _⟩ (fun H locs hB => ?_)
  cases h
  exact gRetV S.1 S.2.1 hr hlk hB dX5_add_85
def FX5_rootOf (p0 : Int32) (p1 : Int32) (σ : CS) : Option (Int32 × CS) :=
  some ((getI 48 (σ.2.2.1 38) ((p0 * (12 : Int32)) + p1)), σ)
abbrev rmX5_rootOf : Room := { frames := 1, cells := 0, slots := 0, locals := 21 }
set_option maxRecDepth 100000 in
set_option maxHeartbeats 4000000 in
theorem kX5_rootOf {l : Launch} {D : va_G} {cI cJ cQ : ClassId} {ad : Nat → Nat} {ra : Nat → Nat → Nat} {adK adV tK : Nat → Nat} {p0 : Int32} {p1 : Int32} {σ σ' : CS} {r : Int32} (h : FX5_rootOf p0 p1 σ = some (r, σ')) : gMet l yX5_rootOf qX5_rootOf rmX5_rootOf 0 0 D vwCl [(cI, .int), (cJ, .long), (cQ, .array .long)] (cKS adK adV tK) [.ref (ad 28), .int p0, .int p1] (CW cI cJ cQ ad ra σ) (CW cI cJ cQ ad ra σ') (some (.int r)) := by
  refine gMet.of (cc := cX5_rootOf) (maxL := 3) (ret := (some .int)) (by decide) rfl (Nat.le_of_ble_eq_true rfl) ?_
  intro p e s m args below meth c S hr hlk hnm hK hKS hA hB ls hl
  have hl : lv_has ls 3 [(0, .ref (ad 28)), (1, .int p0), (2, .int p1)] := hl
  replace S : CallFix p m c cX5_rootOf 3 s args (_ :: wsL_law) RX5 := S
  rw [FX5_rootOf] at h
  refine lv_aload_n S.1 S.2.1 dX5_rootOf_0 rfl (lv_at hl 0 rfl) ?_
  refine tg_28_4 S hK hB (S.2.2.2.2 _ (List.mem_cons_of_mem _ wf_X5_33)) dX5_rootOf_1 ?_
  refine lv_iload_n S.1 S.2.1 dX5_rootOf_4 rfl (lv_at hl 1 rfl) ?_
  refine lv_bipush (v := (12 : Int32)) S.1 S.2.1 dX5_rootOf_5 (by decide) ?_
  refine lv_imul S.1 S.2.1 dX5_rootOf_7 ?_
  refine lv_iload_n S.1 S.2.1 dX5_rootOf_8 rfl (lv_at hl 2 rfl) ?_
  refine lv_iadd S.1 S.2.1 dX5_rootOf_9 ?_
  refine lg_37 (r := (getI 48 (σ.2.2.1 38) ((p0 * (12 : Int32)) + p1))) S hK cKSc hKS hA hB rfl (cwX5_57 S.2.2.2.2 (rm := { frames := 0, cells := 0, slots := 0, locals := 0 }) rfl rfl ⟨Nat.le_of_ble_eq_true rfl, Nat.le_of_ble_eq_true rfl⟩) hl.1 (lv_room (Nat.le_of_ble_eq_true rfl)) dX5_rootOf_10 ⟨Nat.zero_le _, Nat.zero_le _⟩ (fun H locs hB => ?_)
  cases h
  exact gRetI S.1 S.2.1 hr hlk hB dX5_rootOf_13
def FX9_isLetter (p0 : Int32) : Option Int32 :=
  if p0 < (97 : Int32) then
    some (0 : Int32)
  else
    if (122 : Int32) < p0 then
      some (0 : Int32)
    else
      some (1 : Int32)
abbrev rmX9_isLetter : Room := { frames := 0, cells := 0, slots := 0, locals := 0 }
set_option maxRecDepth 100000 in
set_option maxHeartbeats 4000000 in
theorem kX9_isLetter {l : Launch} {D : va_G} {cI cJ cQ : ClassId} {adK adV tK : Nat → Nat} {p0 : Int32} {W0 : va_W} {r : Int32} (h : FX9_isLetter p0 = some r) : gMet l yX9_isLetter qX9_isLetter rmX9_isLetter 0 0 D vwCl [(cI, .int), (cJ, .long), (cQ, .array .long)] (cKS adK adV tK) [.int p0] W0 W0 (some (.int r)) := by
  refine gMet.of (cc := cX9_isLetter) (maxL := 1) (ret := (some .boolean)) (by decide) rfl (Nat.le_of_ble_eq_true rfl) ?_
  intro p e s m args below meth c S hr hlk hnm hK hKS hA hB ls hl
  have hl : lv_has ls 1 [(0, .int p0)] := hl
  replace S : CallFix p m c cX9_isLetter 1 s args (_ :: wsL_law) RX9 := S
  rw [FX9_isLetter] at h
  refine lv_iload_n S.1 S.2.1 dX9_isLetter_0 rfl (lv_at hl 0 rfl) ?_
  refine lv_bipush (v := (97 : Int32)) S.1 S.2.1 dX9_isLetter_1 (by decide) ?_
  refine lv_icmp_lt (tgt := 16) S.1 S.2.1 dX9_isLetter_3 (by decide) (fun c_1 => ?_) (fun c_1 => ?_)
  · replace h := (if_pos c_1).symm.trans h
    refine lv_iconst (v := (0 : Int32)) S.1 S.2.1 dX9_isLetter_16 (by decide) ?_
    cases h
    exact gRetZ S.1 S.2.1 hr hlk hB rfl dX9_isLetter_17
  · replace h := (if_neg c_1).symm.trans h
    refine lv_iload_n S.1 S.2.1 dX9_isLetter_6 rfl (lv_at hl 0 rfl) ?_
    refine lv_bipush (v := (122 : Int32)) S.1 S.2.1 dX9_isLetter_7 (by decide) ?_
    refine lv_icmp_gt (tgt := 16) S.1 S.2.1 dX9_isLetter_9 (by decide) (fun c_2 => ?_) (fun c_2 => ?_)
    · replace h := (if_pos c_2).symm.trans h
      refine lv_iconst (v := (0 : Int32)) S.1 S.2.1 dX9_isLetter_16 (by decide) ?_
      cases h
      exact gRetZ S.1 S.2.1 hr hlk hB rfl dX9_isLetter_17
    · replace h := (if_neg c_2).symm.trans h
      refine lv_iconst (v := (1 : Int32)) S.1 S.2.1 dX9_isLetter_12 (by decide) ?_
      refine lv_goto (tgt := 17) S.1 S.2.1 dX9_isLetter_13 (by decide) ?_
      cases h
      exact gRetZ S.1 S.2.1 hr hlk hB rfl dX9_isLetter_17
def FX9_isDigit (p0 : Int32) : Option Int32 :=
  if p0 < (48 : Int32) then
    some (0 : Int32)
  else
    if (57 : Int32) < p0 then
      some (0 : Int32)
    else
      some (1 : Int32)
abbrev rmX9_isDigit : Room := { frames := 0, cells := 0, slots := 0, locals := 0 }
set_option maxRecDepth 100000 in
set_option maxHeartbeats 4000000 in
theorem kX9_isDigit {l : Launch} {D : va_G} {cI cJ cQ : ClassId} {adK adV tK : Nat → Nat} {p0 : Int32} {W0 : va_W} {r : Int32} (h : FX9_isDigit p0 = some r) : gMet l yX9_isDigit qX9_isDigit rmX9_isDigit 0 0 D vwCl [(cI, .int), (cJ, .long), (cQ, .array .long)] (cKS adK adV tK) [.int p0] W0 W0 (some (.int r)) := by
  refine gMet.of (cc := cX9_isDigit) (maxL := 1) (ret := (some .boolean)) (by decide) rfl (Nat.le_of_ble_eq_true rfl) ?_
  intro p e s m args below meth c S hr hlk hnm hK hKS hA hB ls hl
  have hl : lv_has ls 1 [(0, .int p0)] := hl
  replace S : CallFix p m c cX9_isDigit 1 s args (_ :: wsL_law) RX9 := S
  rw [FX9_isDigit] at h
  refine lv_iload_n S.1 S.2.1 dX9_isDigit_0 rfl (lv_at hl 0 rfl) ?_
  refine lv_bipush (v := (48 : Int32)) S.1 S.2.1 dX9_isDigit_1 (by decide) ?_
  refine lv_icmp_lt (tgt := 16) S.1 S.2.1 dX9_isDigit_3 (by decide) (fun c_1 => ?_) (fun c_1 => ?_)
  · replace h := (if_pos c_1).symm.trans h
    refine lv_iconst (v := (0 : Int32)) S.1 S.2.1 dX9_isDigit_16 (by decide) ?_
    cases h
    exact gRetZ S.1 S.2.1 hr hlk hB rfl dX9_isDigit_17
  · replace h := (if_neg c_1).symm.trans h
    refine lv_iload_n S.1 S.2.1 dX9_isDigit_6 rfl (lv_at hl 0 rfl) ?_
    refine lv_bipush (v := (57 : Int32)) S.1 S.2.1 dX9_isDigit_7 (by decide) ?_
    refine lv_icmp_gt (tgt := 16) S.1 S.2.1 dX9_isDigit_9 (by decide) (fun c_2 => ?_) (fun c_2 => ?_)
    · replace h := (if_pos c_2).symm.trans h
      refine lv_iconst (v := (0 : Int32)) S.1 S.2.1 dX9_isDigit_16 (by decide) ?_
      cases h
      exact gRetZ S.1 S.2.1 hr hlk hB rfl dX9_isDigit_17
    · replace h := (if_neg c_2).symm.trans h
      refine lv_iconst (v := (1 : Int32)) S.1 S.2.1 dX9_isDigit_12 (by decide) ?_
      refine lv_goto (tgt := 17) S.1 S.2.1 dX9_isDigit_13 (by decide) ?_
      cases h
      exact gRetZ S.1 S.2.1 hr hlk hB rfl dX9_isDigit_17
def FX9_symbolOfOne (p0 : Int32) : Option Int32 :=
  if p0 = 37 then
    some (43 : Int32)
  else if p0 = 40 then
    some (30 : Int32)
  else if p0 = 41 then
    some (31 : Int32)
  else if p0 = 42 then
    some (41 : Int32)
  else if p0 = 43 then
    some (39 : Int32)
  else if p0 = 45 then
    some (40 : Int32)
  else if p0 = 47 then
    some (42 : Int32)
  else if p0 = 58 then
    some (37 : Int32)
  else if p0 = 59 then
    some (36 : Int32)
  else if p0 = 60 then
    some (46 : Int32)
  else if p0 = 61 then
    some (44 : Int32)
  else if p0 = 62 then
    some (47 : Int32)
  else if p0 = 91 then
    some (34 : Int32)
  else if p0 = 93 then
    some (35 : Int32)
  else if p0 = 123 then
    some (32 : Int32)
  else if p0 = 125 then
    some (33 : Int32)
  else 
    some (54 : Int32)
abbrev rmX9_symbolOfOne : Room := { frames := 0, cells := 0, slots := 0, locals := 0 }
set_option maxRecDepth 100000 in
set_option maxHeartbeats 4000000 in
theorem kX9_symbolOfOne {l : Launch} {D : va_G} {cI cJ cQ : ClassId} {adK adV tK : Nat → Nat} {p0 : Int32} {W0 : va_W} {r : Int32} (h : FX9_symbolOfOne p0 = some r) : gMet l yX9_symbolOfOne qX9_symbolOfOne rmX9_symbolOfOne 0 0 D vwCl [(cI, .int), (cJ, .long), (cQ, .array .long)] (cKS adK adV tK) [.int p0] W0 W0 (some (.int r)) := by
  refine gMet.of (cc := cX9_symbolOfOne) (maxL := 1) (ret := (some .int)) (by decide) rfl (Nat.le_of_ble_eq_true rfl) ?_
  intro p e s m args below meth c S hr hlk hnm hK hKS hA hB ls hl
  have hl : lv_has ls 1 [(0, .int p0)] := hl
  replace S : CallFix p m c cX9_symbolOfOne 1 s args (_ :: wsL_law) RX9 := S
  rw [FX9_symbolOfOne] at h
  refine lv_iload_n S.1 S.2.1 dX9_symbolOfOne_0 rfl (lv_at hl 0 rfl) ?_
  by_cases c_1 : p0 = 37
  · replace h := (if_pos c_1).symm.trans h
    refine lv_lookup (off := 178) (tgt := 179) S.1 S.2.1 dX9_symbolOfOne_1 (by decide) (by rw [c_1]; rfl) (by decide) ?_
    refine lv_bipush (v := (43 : Int32)) S.1 S.2.1 dX9_symbolOfOne_179 (by decide) ?_
    cases h
    exact gRetI S.1 S.2.1 hr hlk hB dX9_symbolOfOne_181
  · replace h := (if_neg c_1).symm.trans h
    by_cases c_2 : p0 = 40
    · replace h := (if_pos c_2).symm.trans h
      refine lv_lookup (off := 139) (tgt := 140) S.1 S.2.1 dX9_symbolOfOne_1 (by decide) (by rw [c_2]; rfl) (by decide) ?_
      refine lv_bipush (v := (30 : Int32)) S.1 S.2.1 dX9_symbolOfOne_140 (by decide) ?_
      cases h
      exact gRetI S.1 S.2.1 hr hlk hB dX9_symbolOfOne_142
    · replace h := (if_neg c_2).symm.trans h
      by_cases c_3 : p0 = 41
      · replace h := (if_pos c_3).symm.trans h
        refine lv_lookup (off := 142) (tgt := 143) S.1 S.2.1 dX9_symbolOfOne_1 (by decide) (by rw [c_3]; rfl) (by decide) ?_
        refine lv_bipush (v := (31 : Int32)) S.1 S.2.1 dX9_symbolOfOne_143 (by decide) ?_
        cases h
        exact gRetI S.1 S.2.1 hr hlk hB dX9_symbolOfOne_145
      · replace h := (if_neg c_3).symm.trans h
        by_cases c_4 : p0 = 42
        · replace h := (if_pos c_4).symm.trans h
          refine lv_lookup (off := 172) (tgt := 173) S.1 S.2.1 dX9_symbolOfOne_1 (by decide) (by rw [c_4]; rfl) (by decide) ?_
          refine lv_bipush (v := (41 : Int32)) S.1 S.2.1 dX9_symbolOfOne_173 (by decide) ?_
          cases h
          exact gRetI S.1 S.2.1 hr hlk hB dX9_symbolOfOne_175
        · replace h := (if_neg c_4).symm.trans h
          by_cases c_5 : p0 = 43
          · replace h := (if_pos c_5).symm.trans h
            refine lv_lookup (off := 166) (tgt := 167) S.1 S.2.1 dX9_symbolOfOne_1 (by decide) (by rw [c_5]; rfl) (by decide) ?_
            refine lv_bipush (v := (39 : Int32)) S.1 S.2.1 dX9_symbolOfOne_167 (by decide) ?_
            cases h
            exact gRetI S.1 S.2.1 hr hlk hB dX9_symbolOfOne_169
          · replace h := (if_neg c_5).symm.trans h
            by_cases c_6 : p0 = 45
            · replace h := (if_pos c_6).symm.trans h
              refine lv_lookup (off := 169) (tgt := 170) S.1 S.2.1 dX9_symbolOfOne_1 (by decide) (by rw [c_6]; rfl) (by decide) ?_
              refine lv_bipush (v := (40 : Int32)) S.1 S.2.1 dX9_symbolOfOne_170 (by decide) ?_
              cases h
              exact gRetI S.1 S.2.1 hr hlk hB dX9_symbolOfOne_172
            · replace h := (if_neg c_6).symm.trans h
              by_cases c_7 : p0 = 47
              · replace h := (if_pos c_7).symm.trans h
                refine lv_lookup (off := 175) (tgt := 176) S.1 S.2.1 dX9_symbolOfOne_1 (by decide) (by rw [c_7]; rfl) (by decide) ?_
                refine lv_bipush (v := (42 : Int32)) S.1 S.2.1 dX9_symbolOfOne_176 (by decide) ?_
                cases h
                exact gRetI S.1 S.2.1 hr hlk hB dX9_symbolOfOne_178
              · replace h := (if_neg c_7).symm.trans h
                by_cases c_8 : p0 = 58
                · replace h := (if_pos c_8).symm.trans h
                  refine lv_lookup (off := 160) (tgt := 161) S.1 S.2.1 dX9_symbolOfOne_1 (by decide) (by rw [c_8]; rfl) (by decide) ?_
                  refine lv_bipush (v := (37 : Int32)) S.1 S.2.1 dX9_symbolOfOne_161 (by decide) ?_
                  cases h
                  exact gRetI S.1 S.2.1 hr hlk hB dX9_symbolOfOne_163
                · replace h := (if_neg c_8).symm.trans h
                  by_cases c_9 : p0 = 59
                  · replace h := (if_pos c_9).symm.trans h
                    refine lv_lookup (off := 157) (tgt := 158) S.1 S.2.1 dX9_symbolOfOne_1 (by decide) (by rw [c_9]; rfl) (by decide) ?_
                    refine lv_bipush (v := (36 : Int32)) S.1 S.2.1 dX9_symbolOfOne_158 (by decide) ?_
                    cases h
                    exact gRetI S.1 S.2.1 hr hlk hB dX9_symbolOfOne_160
                  · replace h := (if_neg c_9).symm.trans h
                    by_cases c_10 : p0 = 60
                    · replace h := (if_pos c_10).symm.trans h
                      refine lv_lookup (off := 181) (tgt := 182) S.1 S.2.1 dX9_symbolOfOne_1 (by decide) (by rw [c_10]; rfl) (by decide) ?_
                      refine lv_bipush (v := (46 : Int32)) S.1 S.2.1 dX9_symbolOfOne_182 (by decide) ?_
                      cases h
                      exact gRetI S.1 S.2.1 hr hlk hB dX9_symbolOfOne_184
                    · replace h := (if_neg c_10).symm.trans h
                      by_cases c_11 : p0 = 61
                      · replace h := (if_pos c_11).symm.trans h
                        refine lv_lookup (off := 163) (tgt := 164) S.1 S.2.1 dX9_symbolOfOne_1 (by decide) (by rw [c_11]; rfl) (by decide) ?_
                        refine lv_bipush (v := (44 : Int32)) S.1 S.2.1 dX9_symbolOfOne_164 (by decide) ?_
                        cases h
                        exact gRetI S.1 S.2.1 hr hlk hB dX9_symbolOfOne_166
                      · replace h := (if_neg c_11).symm.trans h
                        by_cases c_12 : p0 = 62
                        · replace h := (if_pos c_12).symm.trans h
                          refine lv_lookup (off := 184) (tgt := 185) S.1 S.2.1 dX9_symbolOfOne_1 (by decide) (by rw [c_12]; rfl) (by decide) ?_
                          refine lv_bipush (v := (47 : Int32)) S.1 S.2.1 dX9_symbolOfOne_185 (by decide) ?_
                          cases h
                          exact gRetI S.1 S.2.1 hr hlk hB dX9_symbolOfOne_187
                        · replace h := (if_neg c_12).symm.trans h
                          by_cases c_13 : p0 = 91
                          · replace h := (if_pos c_13).symm.trans h
                            refine lv_lookup (off := 151) (tgt := 152) S.1 S.2.1 dX9_symbolOfOne_1 (by decide) (by rw [c_13]; rfl) (by decide) ?_
                            refine lv_bipush (v := (34 : Int32)) S.1 S.2.1 dX9_symbolOfOne_152 (by decide) ?_
                            cases h
                            exact gRetI S.1 S.2.1 hr hlk hB dX9_symbolOfOne_154
                          · replace h := (if_neg c_13).symm.trans h
                            by_cases c_14 : p0 = 93
                            · replace h := (if_pos c_14).symm.trans h
                              refine lv_lookup (off := 154) (tgt := 155) S.1 S.2.1 dX9_symbolOfOne_1 (by decide) (by rw [c_14]; rfl) (by decide) ?_
                              refine lv_bipush (v := (35 : Int32)) S.1 S.2.1 dX9_symbolOfOne_155 (by decide) ?_
                              cases h
                              exact gRetI S.1 S.2.1 hr hlk hB dX9_symbolOfOne_157
                            · replace h := (if_neg c_14).symm.trans h
                              by_cases c_15 : p0 = 123
                              · replace h := (if_pos c_15).symm.trans h
                                refine lv_lookup (off := 145) (tgt := 146) S.1 S.2.1 dX9_symbolOfOne_1 (by decide) (by rw [c_15]; rfl) (by decide) ?_
                                refine lv_bipush (v := (32 : Int32)) S.1 S.2.1 dX9_symbolOfOne_146 (by decide) ?_
                                cases h
                                exact gRetI S.1 S.2.1 hr hlk hB dX9_symbolOfOne_148
                              · replace h := (if_neg c_15).symm.trans h
                                by_cases c_16 : p0 = 125
                                · replace h := (if_pos c_16).symm.trans h
                                  refine lv_lookup (off := 148) (tgt := 149) S.1 S.2.1 dX9_symbolOfOne_1 (by decide) (by rw [c_16]; rfl) (by decide) ?_
                                  refine lv_bipush (v := (33 : Int32)) S.1 S.2.1 dX9_symbolOfOne_149 (by decide) ?_
                                  cases h
                                  exact gRetI S.1 S.2.1 hr hlk hB dX9_symbolOfOne_151
                                · replace h := (if_neg c_16).symm.trans h
                                  refine lv_lookup (off := 187) (tgt := 188) S.1 S.2.1 dX9_symbolOfOne_1 (by decide) ((lv_osw c_1 (by decide)).trans ((lv_osw c_2 (by decide)).trans ((lv_osw c_3 (by decide)).trans ((lv_osw c_4 (by decide)).trans ((lv_osw c_5 (by decide)).trans ((lv_osw c_6 (by decide)).trans ((lv_osw c_7 (by decide)).trans ((lv_osw c_8 (by decide)).trans ((lv_osw c_9 (by decide)).trans ((lv_osw c_10 (by decide)).trans ((lv_osw c_11 (by decide)).trans ((lv_osw c_12 (by decide)).trans ((lv_osw c_13 (by decide)).trans ((lv_osw c_14 (by decide)).trans ((lv_osw c_15 (by decide)).trans ((lv_osw c_16 (by decide)).trans rfl)))))))))))))))) (by decide) ?_
                                  refine lv_bipush (v := (54 : Int32)) S.1 S.2.1 dX9_symbolOfOne_188 (by decide) ?_
                                  cases h
                                  exact gRetI S.1 S.2.1 hr hlk hB dX9_symbolOfOne_190
def FX9_symbolOfTwo_67  (x0 : Int32) (x1 : Int32) : Option Int32 :=
    if x0 = (46 : Int32) then
      if x1 = (46 : Int32) then
        some (50 : Int32)
      else
        some (54 : Int32)
    else
      some (54 : Int32)
def FX9_symbolOfTwo (p0 : Int32) (p1 : Int32) : Option Int32 :=
  if p1 = (61 : Int32) then
    if p0 = 58 then
      some (38 : Int32)
    else if p0 = 60 then
      some (48 : Int32)
    else if p0 = 62 then
      some (49 : Int32)
    else 
      some (54 : Int32)
  else
    if p0 = (60 : Int32) then
      if p1 = (62 : Int32) then
        some (45 : Int32)
      else
        FX9_symbolOfTwo_67 p0 p1
    else
      FX9_symbolOfTwo_67 p0 p1
abbrev rmX9_symbolOfTwo : Room := { frames := 0, cells := 0, slots := 0, locals := 0 }
set_option maxRecDepth 100000 in
set_option maxHeartbeats 4000000 in
theorem kX9_symbolOfTwo {l : Launch} {D : va_G} {cI cJ cQ : ClassId} {adK adV tK : Nat → Nat} {p0 : Int32} {p1 : Int32} {W0 : va_W} {r : Int32} (h : FX9_symbolOfTwo p0 p1 = some r) : gMet l yX9_symbolOfTwo qX9_symbolOfTwo rmX9_symbolOfTwo 0 0 D vwCl [(cI, .int), (cJ, .long), (cQ, .array .long)] (cKS adK adV tK) [.int p0, .int p1] W0 W0 (some (.int r)) := by
  refine gMet.of (cc := cX9_symbolOfTwo) (maxL := 2) (ret := (some .int)) (by decide) rfl (Nat.le_of_ble_eq_true rfl) ?_
  intro p e s m args below meth c S hr hlk hnm hK hKS hA hB ls hl
  have hl : lv_has ls 2 [(0, .int p0), (1, .int p1)] := hl
  replace S : CallFix p m c cX9_symbolOfTwo 2 s args (_ :: wsL_law) RX9 := S
  rw [FX9_symbolOfTwo] at h
  have P67 : ∀ (x0 : Int32) (x1 : Int32) (H : Heap) (locs : List Loc) (ls : Array Slot), FX9_symbolOfTwo_67 x0 x1 = some r → gB D vwCl (va_A W0 s.heap.size) s.heap W0 [] H locs → lv_has ls 2 [(0, .int x0), (1, .int x1)] → W p l e rmX9_symbolOfTwo s m args below meth c H locs 0 0 (MQ below (gQ D vwCl W0 W0 (some (.int r)) s.heap.size) args s 0 0 (va_A W0 s.heap.size)) (F0 m 67 ls []) := by
    intro  x0 x1 H locs ls h hB hl
    rw [FX9_symbolOfTwo_67] at h
    refine lv_iload_n S.1 S.2.1 dX9_symbolOfTwo_67 rfl (lv_at hl 0 rfl) ?_
    refine lv_bipush (v := (46 : Int32)) S.1 S.2.1 dX9_symbolOfTwo_68 (by decide) ?_
    refine lv_icmp_ne (tgt := 84) S.1 S.2.1 dX9_symbolOfTwo_70 (by decide) (fun c_3 => ?_) (fun c_3 => ?_)
    · replace h := (if_neg c_3).symm.trans h
      refine lv_bipush (v := (54 : Int32)) S.1 S.2.1 dX9_symbolOfTwo_84 (by decide) ?_
      cases h
      exact gRetI S.1 S.2.1 hr hlk hB dX9_symbolOfTwo_86
    · replace h := (if_pos c_3).symm.trans h
      refine lv_iload_n S.1 S.2.1 dX9_symbolOfTwo_73 rfl (lv_at hl 1 rfl) ?_
      refine lv_bipush (v := (46 : Int32)) S.1 S.2.1 dX9_symbolOfTwo_74 (by decide) ?_
      refine lv_icmp_ne (tgt := 84) S.1 S.2.1 dX9_symbolOfTwo_76 (by decide) (fun c_4 => ?_) (fun c_4 => ?_)
      · replace h := (if_neg c_4).symm.trans h
        refine lv_bipush (v := (54 : Int32)) S.1 S.2.1 dX9_symbolOfTwo_84 (by decide) ?_
        cases h
        exact gRetI S.1 S.2.1 hr hlk hB dX9_symbolOfTwo_86
      · replace h := (if_pos c_4).symm.trans h
        refine lv_bipush (v := (50 : Int32)) S.1 S.2.1 dX9_symbolOfTwo_79 (by decide) ?_
        refine lv_goto (tgt := 86) S.1 S.2.1 dX9_symbolOfTwo_81 (by decide) ?_
        cases h
        exact gRetI S.1 S.2.1 hr hlk hB dX9_symbolOfTwo_86
  refine lv_iload_n S.1 S.2.1 dX9_symbolOfTwo_0 rfl (lv_at hl 1 rfl) ?_
  refine lv_bipush (v := (61 : Int32)) S.1 S.2.1 dX9_symbolOfTwo_1 (by decide) ?_
  refine lv_icmp_ne (tgt := 52) S.1 S.2.1 dX9_symbolOfTwo_3 (by decide) (fun c_1 => ?_) (fun c_1 => ?_)
  · replace h := (if_neg c_1).symm.trans h
    refine lv_iload_n S.1 S.2.1 dX9_symbolOfTwo_52 rfl (lv_at hl 0 rfl) ?_
    refine lv_bipush (v := (60 : Int32)) S.1 S.2.1 dX9_symbolOfTwo_53 (by decide) ?_
    refine lv_icmp_ne (tgt := 67) S.1 S.2.1 dX9_symbolOfTwo_55 (by decide) (fun c_2 => ?_) (fun c_2 => ?_)
    · replace h := (if_neg c_2).symm.trans h
      exact P67  _ _ _ _ _ h hB hl
    · replace h := (if_pos c_2).symm.trans h
      refine lv_iload_n S.1 S.2.1 dX9_symbolOfTwo_58 rfl (lv_at hl 1 rfl) ?_
      refine lv_bipush (v := (62 : Int32)) S.1 S.2.1 dX9_symbolOfTwo_59 (by decide) ?_
      refine lv_icmp_ne (tgt := 67) S.1 S.2.1 dX9_symbolOfTwo_61 (by decide) (fun c_5 => ?_) (fun c_5 => ?_)
      · replace h := (if_neg c_5).symm.trans h
        exact P67  _ _ _ _ _ h hB hl
      · replace h := (if_pos c_5).symm.trans h
        refine lv_bipush (v := (45 : Int32)) S.1 S.2.1 dX9_symbolOfTwo_64 (by decide) ?_
        cases h
        exact gRetI S.1 S.2.1 hr hlk hB dX9_symbolOfTwo_66
  · replace h := (if_pos c_1).symm.trans h
    refine lv_iload_n S.1 S.2.1 dX9_symbolOfTwo_6 rfl (lv_at hl 0 rfl) ?_
    by_cases c_6 : p0 = 58
    · replace h := (if_pos c_6).symm.trans h
      refine lv_tableIn (off := 33) (tgt := 40) S.1 S.2.1 dX9_symbolOfTwo_7 (by rw [c_6]; decide) (by rw [c_6]; decide) (by rw [c_6]; rfl) (by decide) ?_
      refine lv_bipush (v := (38 : Int32)) S.1 S.2.1 dX9_symbolOfTwo_40 (by decide) ?_
      cases h
      exact gRetI S.1 S.2.1 hr hlk hB dX9_symbolOfTwo_42
    · replace h := (if_neg c_6).symm.trans h
      by_cases c_7 : p0 = 60
      · replace h := (if_pos c_7).symm.trans h
        refine lv_tableIn (off := 36) (tgt := 43) S.1 S.2.1 dX9_symbolOfTwo_7 (by rw [c_7]; decide) (by rw [c_7]; decide) (by rw [c_7]; rfl) (by decide) ?_
        refine lv_bipush (v := (48 : Int32)) S.1 S.2.1 dX9_symbolOfTwo_43 (by decide) ?_
        cases h
        exact gRetI S.1 S.2.1 hr hlk hB dX9_symbolOfTwo_45
      · replace h := (if_neg c_7).symm.trans h
        by_cases c_8 : p0 = 62
        · replace h := (if_pos c_8).symm.trans h
          refine lv_tableIn (off := 39) (tgt := 46) S.1 S.2.1 dX9_symbolOfTwo_7 (by rw [c_8]; decide) (by rw [c_8]; decide) (by rw [c_8]; rfl) (by decide) ?_
          refine lv_bipush (v := (49 : Int32)) S.1 S.2.1 dX9_symbolOfTwo_46 (by decide) ?_
          cases h
          exact gRetI S.1 S.2.1 hr hlk hB dX9_symbolOfTwo_48
        · replace h := (if_neg c_8).symm.trans h
          refine swT (tgt := 49) (cs := [58, 60, 62]) S.1 S.2.1 dX9_symbolOfTwo_7 (List.forall_mem_cons.mpr ⟨lv_neT c_6 (by decide), List.forall_mem_cons.mpr ⟨lv_neT c_7 (by decide), List.forall_mem_cons.mpr ⟨lv_neT c_8 (by decide), List.forall_mem_nil _⟩⟩⟩) (by decide) (by decide) (by decide) ?_
          refine lv_bipush (v := (54 : Int32)) S.1 S.2.1 dX9_symbolOfTwo_49 (by decide) ?_
          cases h
          exact gRetI S.1 S.2.1 hr hlk hB dX9_symbolOfTwo_51
def FX9_skipBlanks_0 (L : Nat)  : Nat → CS → Option (Unit × CS)
  | 0, _ => none
  | n+1, σ1 =>
    if (σ1.1 101) ≤ (σ1.1 405) then
      some ((), σ1)
    else
      b2 (FX8_byteAt (σ1.1 405) σ1) fun r_2 σ_2 =>
      if r_2 = (32 : Int32) then
        (FX9_skipBlanks_0 L n) (tI σ_2 405 ((σ_2.1 405) + (1 : Int32)))
      else
        b2 (FX8_byteAt (σ_2.1 405) σ_2) fun r_4 σ_4 =>
        if r_4 = (10 : Int32) then
          (FX9_skipBlanks_0 L n) (tI σ_4 405 ((σ_4.1 405) + (1 : Int32)))
        else
          some ((), σ_4)
def FX9_skipBlanks (L : Nat)  (σ : CS) : Option (Unit × CS) :=
  FX9_skipBlanks_0 L L σ
abbrev rmX9_skipBlanks : Room := { frames := 2, cells := 0, slots := 0, locals := 42 }
set_option maxRecDepth 100000 in
set_option maxHeartbeats 4000000 in
theorem kX9_skipBlanks {l : Launch} {D : va_G} {cI cJ cQ : ClassId} {ad : Nat → Nat} {ra : Nat → Nat → Nat} {adK adV tK : Nat → Nat} {L : Nat}  {σ σ' : CS} (h : FX9_skipBlanks L  σ = some ((), σ')) : gMet l yX9_skipBlanks qX9_skipBlanks rmX9_skipBlanks 0 0 D vwCl [(cI, .int), (cJ, .long), (cQ, .array .long)] (cKS adK adV tK) [.ref (ad 4)] (CW cI cJ cQ ad ra σ) (CW cI cJ cQ ad ra σ') none := by
  refine gMet.of (cc := cX9_skipBlanks) (maxL := 1) (ret := none) (by decide) rfl (Nat.le_of_ble_eq_true rfl) ?_
  intro p e s m args below meth c S hr hlk hnm hK hKS hA hB ls hl
  have hl : lv_has ls 1 [(0, .ref (ad 4))] := hl
  replace S : CallFix p m c cX9_skipBlanks 1 s args (_ :: wsL_law) RX9 := S
  rw [FX9_skipBlanks] at h
  have P0 : ∀  (n : Nat), ∀  (σ1 : CS) (H : Heap) (locs : List Loc) (ls : Array Slot), FX9_skipBlanks_0 L n  σ1 = some ((), σ') → gB D vwCl (va_A (CW cI cJ cQ ad ra σ) s.heap.size) s.heap (CW cI cJ cQ ad ra σ1) [] H locs → lv_has ls 1 [(0, .ref (ad 4))] → W p l e rmX9_skipBlanks s m args below meth c H locs 0 0 (MQ below (gQ D vwCl (CW cI cJ cQ ad ra σ) (CW cI cJ cQ ad ra σ') none s.heap.size) args s 0 0 (va_A (CW cI cJ cQ ad ra σ) s.heap.size)) (F0 m 0 ls []) := by
    intro n
    induction n with
    | zero => intro  σ1 H locs ls h; simp only [FX9_skipBlanks_0] at h; cases h
    | succ n ih =>
      intro  σ1 H locs ls h hB hl
      rw [FX9_skipBlanks_0] at h
      refine lv_aload_n S.1 S.2.1 dX9_skipBlanks_0 rfl (lv_at hl 0 rfl) ?_
      refine tg_4_5 S hK hB (S.2.2.2.2 _ (List.mem_cons_of_mem _ wf_X9_59)) rfl dX9_skipBlanks_1 ?_
      refine lv_aload_n S.1 S.2.1 dX9_skipBlanks_4 rfl (lv_at hl 0 rfl) ?_
      refine tg_4_0 S hK hB (S.2.2.2.2 _ (List.mem_cons_of_mem _ wf_X9_9)) dX9_skipBlanks_5 ?_
      refine tgN_1_1 S hK hB (nF hKS 1 rfl) rfl dX9_skipBlanks_8 ?_
      refine lv_icmp_ge (tgt := 59) S.1 S.2.1 dX9_skipBlanks_11 (by decide) (fun c_1 => ?_) (fun c_1 => ?_)
      · replace h := (if_pos c_1).symm.trans h
        cases h
        exact gRetV S.1 S.2.1 hr hlk hB dX9_skipBlanks_59
      · replace h := (if_neg c_1).symm.trans h
        refine lv_aload_n S.1 S.2.1 dX9_skipBlanks_14 rfl (lv_at hl 0 rfl) ?_
        refine tg_4_0 S hK hB (S.2.2.2.2 _ (List.mem_cons_of_mem _ wf_X9_9)) dX9_skipBlanks_15 ?_
        refine lv_aload_n S.1 S.2.1 dX9_skipBlanks_18 rfl (lv_at hl 0 rfl) ?_
        refine tg_4_5 S hK hB (S.2.2.2.2 _ (List.mem_cons_of_mem _ wf_X9_59)) rfl dX9_skipBlanks_19 ?_
        obtain ⟨r_2, σ_2, e_2, h⟩ := b2s h
        refine cCallI S hK cKSc hKS hA (kX8_byteAt e_2) (cwX9_77 S.2.2.2.2 (rm := rmX8_byteAt) rfl rfl ⟨Nat.le_of_ble_eq_true rfl, Nat.le_of_ble_eq_true rfl⟩) hB 1 rfl rfl rfl hl.1 rfl (lv_room (Nat.le_of_ble_eq_true rfl)) dX9_skipBlanks_22 ⟨Nat.zero_le _, Nat.zero_le _⟩ (fun H locs hB => ?_)
        refine lv_bipush (v := (32 : Int32)) S.1 S.2.1 dX9_skipBlanks_25 (by decide) ?_
        refine lv_icmp_eq (tgt := 46) S.1 S.2.1 dX9_skipBlanks_27 (by decide) (fun c_3 => ?_) (fun c_3 => ?_)
        · replace h := (if_pos c_3).symm.trans h
          refine lv_aload_n S.1 S.2.1 dX9_skipBlanks_46 rfl (lv_at hl 0 rfl) ?_
          refine lv_dup S.1 S.2.1 dX9_skipBlanks_47 rfl ?_
          refine tg_4_5 S hK hB (S.2.2.2.2 _ (List.mem_cons_of_mem _ wf_X9_59)) rfl dX9_skipBlanks_48 ?_
          refine lv_iconst (v := (1 : Int32)) S.1 S.2.1 dX9_skipBlanks_51 (by decide) ?_
          refine lv_iadd S.1 S.2.1 dX9_skipBlanks_52 ?_
          refine tp_4_5 S hK hB (S.2.2.2.2 _ (List.mem_cons_of_mem _ wf_X9_59)) dX9_skipBlanks_53 (fun H locs hB => ?_)
          refine lv_goto (tgt := 0) S.1 S.2.1 dX9_skipBlanks_56 (by decide) ?_
          exact ih _ _ _ _ h hB hl
        · replace h := (if_neg c_3).symm.trans h
          refine lv_aload_n S.1 S.2.1 dX9_skipBlanks_30 rfl (lv_at hl 0 rfl) ?_
          refine tg_4_0 S hK hB (S.2.2.2.2 _ (List.mem_cons_of_mem _ wf_X9_9)) dX9_skipBlanks_31 ?_
          refine lv_aload_n S.1 S.2.1 dX9_skipBlanks_34 rfl (lv_at hl 0 rfl) ?_
          refine tg_4_5 S hK hB (S.2.2.2.2 _ (List.mem_cons_of_mem _ wf_X9_59)) rfl dX9_skipBlanks_35 ?_
          obtain ⟨r_4, σ_4, e_4, h⟩ := b2s h
          refine cCallI S hK cKSc hKS hA (kX8_byteAt e_4) (cwX9_77 S.2.2.2.2 (rm := rmX8_byteAt) rfl rfl ⟨Nat.le_of_ble_eq_true rfl, Nat.le_of_ble_eq_true rfl⟩) hB 1 rfl rfl rfl hl.1 rfl (lv_room (Nat.le_of_ble_eq_true rfl)) dX9_skipBlanks_38 ⟨Nat.zero_le _, Nat.zero_le _⟩ (fun H locs hB => ?_)
          refine lv_bipush (v := (10 : Int32)) S.1 S.2.1 dX9_skipBlanks_41 (by decide) ?_
          refine lv_icmp_ne (tgt := 59) S.1 S.2.1 dX9_skipBlanks_43 (by decide) (fun c_5 => ?_) (fun c_5 => ?_)
          · replace h := (if_neg c_5).symm.trans h
            cases h
            exact gRetV S.1 S.2.1 hr hlk hB dX9_skipBlanks_59
          · replace h := (if_pos c_5).symm.trans h
            refine lv_aload_n S.1 S.2.1 dX9_skipBlanks_46 rfl (lv_at hl 0 rfl) ?_
            refine lv_dup S.1 S.2.1 dX9_skipBlanks_47 rfl ?_
            refine tg_4_5 S hK hB (S.2.2.2.2 _ (List.mem_cons_of_mem _ wf_X9_59)) rfl dX9_skipBlanks_48 ?_
            refine lv_iconst (v := (1 : Int32)) S.1 S.2.1 dX9_skipBlanks_51 (by decide) ?_
            refine lv_iadd S.1 S.2.1 dX9_skipBlanks_52 ?_
            refine tp_4_5 S hK hB (S.2.2.2.2 _ (List.mem_cons_of_mem _ wf_X9_59)) dX9_skipBlanks_53 (fun H locs hB => ?_)
            refine lv_goto (tgt := 0) S.1 S.2.1 dX9_skipBlanks_56 (by decide) ?_
            exact ih _ _ _ _ h hB hl
  exact P0  L _ _ _ _ h hB hl
def FX9_sortOfWord_2 (L : Nat)  : Nat → Int64 → Int32 → CS → Option (Int32 × CS)
  | 0, _, _, _ => none
  | n+1, x1, x3, σ1 =>
    if (30 : Int32) ≤ x3 then
      some ((51 : Int32), σ1)
    else
      if (getL 30 (σ1.2.2.2.1 6) x3) = x1 then
        some (x3, σ1)
      else
        (FX9_sortOfWord_2 L n) x1 (x3 + (1 : Int32)) σ1
def FX9_sortOfWord (L : Nat) (p0 : Int64) (σ : CS) : Option (Int32 × CS) :=
  FX9_sortOfWord_2 L L p0 (0 : Int32) σ
abbrev rmX9_sortOfWord : Room := { frames := 1, cells := 0, slots := 0, locals := 21 }
set_option maxRecDepth 100000 in
set_option maxHeartbeats 4000000 in
theorem kX9_sortOfWord {l : Launch} {D : va_G} {cI cJ cQ : ClassId} {ad : Nat → Nat} {ra : Nat → Nat → Nat} {adK adV tK : Nat → Nat} {L : Nat} {p0 : Int64} {σ σ' : CS} {r : Int32} (h : FX9_sortOfWord L p0 σ = some (r, σ')) : gMet l yX9_sortOfWord qX9_sortOfWord rmX9_sortOfWord 0 0 D vwCl [(cI, .int), (cJ, .long), (cQ, .array .long)] (cKS adK adV tK) [.ref (ad 4), .long p0] (CW cI cJ cQ ad ra σ) (CW cI cJ cQ ad ra σ') (some (.int r)) := by
  refine gMet.of (cc := cX9_sortOfWord) (maxL := 4) (ret := (some .int)) (by decide) rfl (Nat.le_of_ble_eq_true rfl) ?_
  intro p e s m args below meth c S hr hlk hnm hK hKS hA hB ls hl
  have hl : lv_has ls 4 [(0, .ref (ad 4)), (1, .long p0)] := hl
  replace S : CallFix p m c cX9_sortOfWord 4 s args (_ :: wsL_law) RX9 := S
  rw [FX9_sortOfWord] at h
  have P2 : ∀  (n : Nat), ∀ (x1 : Int64) (x3 : Int32) (σ1 : CS) (H : Heap) (locs : List Loc) (ls : Array Slot), FX9_sortOfWord_2 L n x1 x3 σ1 = some (r, σ') → gB D vwCl (va_A (CW cI cJ cQ ad ra σ) s.heap.size) s.heap (CW cI cJ cQ ad ra σ1) [] H locs → lv_has ls 4 [(0, .ref (ad 4)), (1, .long x1), (3, .int x3)] → W p l e rmX9_sortOfWord s m args below meth c H locs 0 0 (MQ below (gQ D vwCl (CW cI cJ cQ ad ra σ) (CW cI cJ cQ ad ra σ') (some (.int r)) s.heap.size) args s 0 0 (va_A (CW cI cJ cQ ad ra σ) s.heap.size)) (F0 m 2 ls []) := by
    intro n
    induction n with
    | zero => intro x1 x3 σ1 H locs ls h; simp only [FX9_sortOfWord_2] at h; cases h
    | succ n ih =>
      intro x1 x3 σ1 H locs ls h hB hl
      rw [FX9_sortOfWord_2] at h
      refine lv_iload_n S.1 S.2.1 dX9_sortOfWord_2 rfl (lv_at hl 2 rfl) ?_
      refine lv_bipush (v := (30 : Int32)) S.1 S.2.1 dX9_sortOfWord_3 (by decide) ?_
      refine lv_icmp_ge (tgt := 29) S.1 S.2.1 dX9_sortOfWord_5 (by decide) (fun c_1 => ?_) (fun c_1 => ?_)
      · replace h := (if_pos c_1).symm.trans h
        refine lv_bipush (v := (51 : Int32)) S.1 S.2.1 dX9_sortOfWord_29 (by decide) ?_
        cases h
        exact gRetI S.1 S.2.1 hr hlk hB dX9_sortOfWord_31
      · replace h := (if_neg c_1).symm.trans h
        refine lv_aload_n S.1 S.2.1 dX9_sortOfWord_8 rfl (lv_at hl 0 rfl) ?_
        refine tg_4_1 S hK hB (S.2.2.2.2 _ (List.mem_cons_of_mem _ wf_X9_19)) dX9_sortOfWord_9 ?_
        refine lv_iload_n S.1 S.2.1 dX9_sortOfWord_12 rfl (lv_at hl 2 rfl) ?_
        refine lg_5 (r := (getL 30 (σ1.2.2.2.1 6) x3)) S hK cKSc hKS hA hB rfl (cwX9_100 S.2.2.2.2 (rm := { frames := 0, cells := 0, slots := 0, locals := 0 }) rfl rfl ⟨Nat.le_of_ble_eq_true rfl, Nat.le_of_ble_eq_true rfl⟩) hl.1 (lv_room (Nat.le_of_ble_eq_true rfl)) dX9_sortOfWord_13 ⟨Nat.zero_le _, Nat.zero_le _⟩ (fun H locs hB => ?_)
        refine lv_lload_n S.1 S.2.1 dX9_sortOfWord_16 rfl (lv_at hl 1 rfl) ?_
        refine W.lcmp S.1 S.2.1 dX9_sortOfWord_17 ?_
        refine lv_if_ne (tgt := 23) S.1 S.2.1 dX9_sortOfWord_18 (by decide) (fun c_2 => ?_) (fun c_2 => ?_)
        · replace c_2 := (not_congr lc_eq).mp c_2
          replace h := (if_neg c_2).symm.trans h
          refine lv_iinc (v := (x3 + (1 : Int32))) (lv' := [(3, .int (x3 + (1 : Int32))), (0, .ref (ad 4)), (1, .long x1)]) S.1 S.2.1 dX9_sortOfWord_23 hl (k := 2) rfl rfl (by decide) rfl (fun ls hl => ?_)
          refine lv_goto (tgt := 2) S.1 S.2.1 dX9_sortOfWord_26 (by decide) ?_
          exact ih _ _ _ _ _ _ h hB (lv_sub hl [1, 2, 0] rfl)
        · replace c_2 := lc_eq.mp c_2
          replace h := (if_pos c_2).symm.trans h
          refine lv_iload_n S.1 S.2.1 dX9_sortOfWord_21 rfl (lv_at hl 2 rfl) ?_
          cases h
          exact gRetI S.1 S.2.1 hr hlk hB dX9_sortOfWord_22
  refine lv_iconst (v := (0 : Int32)) S.1 S.2.1 dX9_sortOfWord_0 (by decide) ?_
  refine lv_istore_n (lv' := [(3, .int (0 : Int32)), (0, .ref (ad 4)), (1, .long p0)]) S.1 S.2.1 dX9_sortOfWord_1 rfl hl (by decide) rfl (fun ls hl => ?_)
  exact P2  L _ _ _ _ _ _ h hB (lv_sub hl [1, 2, 0] rfl)
def FX9_readWord_87 (L : Nat)  (x1 : Int32) (x2 : Int32) (x3 : Int64) (σ1 : CS) : Option (Int32 × CS) :=
    if ((σ1.1 405) - x2) ≤ (8 : Int32) then
      b2 (FX9_sortOfWord L x3 (tB σ1 12 (putL 401 (σ1.2.2.2.1 12) x1 x3))) fun r_3 σ_3 =>
      some (r_3, σ_3)
    else
      some ((54 : Int32), (tB σ1 12 (putL 401 (σ1.2.2.2.1 12) x1 x3)))
def FX9_readWord_55 (L : Nat) (k7 : Int32 → Int32 → Int64 → CS → Option (Int32 × CS)) (x1 : Int32) (x2 : Int32) (x3 : Int64) (σ1 : CS) : Option (Int32 × CS) :=
    b2 (FX8_byteAt (σ1.1 405) σ1) fun r_7 σ_7 =>
    k7 x1 x2 ((x3 * (256 : Int64)) + r_7.toInt64) (tI σ_7 405 ((σ_7.1 405) + (1 : Int32)))
def FX9_readWord_7 (L : Nat)  : Nat → Int32 → Int32 → Int64 → CS → Option (Int32 × CS)
  | 0, _, _, _, _ => none
  | n+1, x1, x2, x3, σ1 =>
    if (σ1.1 101) ≤ (σ1.1 405) then
      FX9_readWord_87 L x1 x2 x3 σ1
    else
      b2 (FX8_byteAt (σ1.1 405) σ1) fun r_4 σ_4 =>
      (FX9_isLetter r_4).bind fun r_5 =>
      if r_5 = 0 then
        b2 (FX8_byteAt (σ_4.1 405) σ_4) fun r_8 σ_8 =>
        (FX9_isDigit r_8).bind fun r_9 =>
        if r_9 = 0 then
          FX9_readWord_87 L x1 x2 x3 σ_8
        else
          FX9_readWord_55 L (FX9_readWord_7 L n) x1 x2 x3 σ_8
      else
        FX9_readWord_55 L (FX9_readWord_7 L n) x1 x2 x3 σ_4
def FX9_readWord (L : Nat) (p0 : Int32) (σ : CS) : Option (Int32 × CS) :=
  FX9_readWord_7 L L p0 (σ.1 405) (0 : Int64) σ
abbrev rmX9_readWord : Room := { frames := 2, cells := 0, slots := 0, locals := 44 }
set_option maxRecDepth 100000 in
set_option maxHeartbeats 4000000 in
theorem kX9_readWord {l : Launch} {D : va_G} {cI cJ cQ : ClassId} {ad : Nat → Nat} {ra : Nat → Nat → Nat} {adK adV tK : Nat → Nat} {L : Nat} {p0 : Int32} {σ σ' : CS} {r : Int32} (h : FX9_readWord L p0 σ = some (r, σ')) : gMet l yX9_readWord qX9_readWord rmX9_readWord 0 0 D vwCl [(cI, .int), (cJ, .long), (cQ, .array .long)] (cKS adK adV tK) [.ref (ad 4), .int p0] (CW cI cJ cQ ad ra σ) (CW cI cJ cQ ad ra σ') (some (.int r)) := by
  refine gMet.of (cc := cX9_readWord) (maxL := 5) (ret := (some .int)) (by decide) rfl (Nat.le_of_ble_eq_true rfl) ?_
  intro p e s m args below meth c S hr hlk hnm hK hKS hA hB ls hl
  have hl : lv_has ls 5 [(0, .ref (ad 4)), (1, .int p0)] := hl
  replace S : CallFix p m c cX9_readWord 5 s args (_ :: wsL_law) RX9 := S
  rw [FX9_readWord] at h
  have P87 : ∀ (x1 : Int32) (x2 : Int32) (x3 : Int64) (σ1 : CS) (H : Heap) (locs : List Loc) (ls : Array Slot), FX9_readWord_87 L x1 x2 x3 σ1 = some (r, σ') → gB D vwCl (va_A (CW cI cJ cQ ad ra σ) s.heap.size) s.heap (CW cI cJ cQ ad ra σ1) [] H locs → lv_has ls 5 [(0, .ref (ad 4)), (1, .int x1), (2, .int x2), (3, .long x3)] → W p l e rmX9_readWord s m args below meth c H locs 0 0 (MQ below (gQ D vwCl (CW cI cJ cQ ad ra σ) (CW cI cJ cQ ad ra σ') (some (.int r)) s.heap.size) args s 0 0 (va_A (CW cI cJ cQ ad ra σ) s.heap.size)) (F0 m 87 ls []) := by
    intro  x1 x2 x3 σ1 H locs ls h hB hl
    rw [FX9_readWord_87] at h
    refine lv_aload_n S.1 S.2.1 dX9_readWord_87 rfl (lv_at hl 0 rfl) ?_
    refine tg_4_4 S hK hB (S.2.2.2.2 _ (List.mem_cons_of_mem _ wf_X9_38)) dX9_readWord_88 ?_
    refine lv_iload_n S.1 S.2.1 dX9_readWord_91 rfl (lv_at hl 1 rfl) ?_
    refine lv_lload_n S.1 S.2.1 dX9_readWord_92 rfl (lv_at hl 3 rfl) ?_
    refine lp_11 S hK cKSc hKS hA hB (cwX9_53 S.2.2.2.2 (rm := { frames := 0, cells := 0, slots := 0, locals := 0 }) rfl rfl ⟨Nat.le_of_ble_eq_true rfl, Nat.le_of_ble_eq_true rfl⟩) hl.1 (lv_room (Nat.le_of_ble_eq_true rfl)) dX9_readWord_93 ⟨Nat.zero_le _, Nat.zero_le _⟩ (fun H locs hB => ?_)
    refine lv_aload_n S.1 S.2.1 dX9_readWord_96 rfl (lv_at hl 0 rfl) ?_
    refine tg_4_5 (v := (σ1.1 405)) S hK hB (S.2.2.2.2 _ (List.mem_cons_of_mem _ wf_X9_59)) rfl dX9_readWord_97 ?_
    refine lv_iload_n S.1 S.2.1 dX9_readWord_100 rfl (lv_at hl 2 rfl) ?_
    refine lv_isub S.1 S.2.1 dX9_readWord_101 ?_
    refine lv_bipush (v := (8 : Int32)) S.1 S.2.1 dX9_readWord_102 (by decide) ?_
    refine lv_icmp_le (tgt := 112) S.1 S.2.1 dX9_readWord_104 (by decide) (fun c_2 => ?_) (fun c_2 => ?_)
    · replace h := (if_pos c_2).symm.trans h
      refine lv_aload_n S.1 S.2.1 dX9_readWord_112 rfl (lv_at hl 0 rfl) ?_
      refine lv_lload_n S.1 S.2.1 dX9_readWord_113 rfl (lv_at hl 3 rfl) ?_
      obtain ⟨r_3, σ_3, e_3, h⟩ := b2s h
      refine cCallI S hK cKSc hKS hA (kX9_sortOfWord e_3) (cwX9_96 S.2.2.2.2 (rm := rmX9_sortOfWord) rfl rfl ⟨Nat.le_of_ble_eq_true rfl, Nat.le_of_ble_eq_true rfl⟩) hB 4 rfl rfl rfl hl.1 rfl (lv_room (Nat.le_of_ble_eq_true rfl)) dX9_readWord_114 ⟨Nat.zero_le _, Nat.zero_le _⟩ (fun H locs hB => ?_)
      cases h
      exact gRetI S.1 S.2.1 hr hlk hB dX9_readWord_117
    · replace h := (if_neg c_2).symm.trans h
      refine lv_bipush (v := (54 : Int32)) S.1 S.2.1 dX9_readWord_107 (by decide) ?_
      refine lv_goto (tgt := 117) S.1 S.2.1 dX9_readWord_109 (by decide) ?_
      cases h
      exact gRetI S.1 S.2.1 hr hlk hB dX9_readWord_117
  have P55 : ∀ (k7 : Int32 → Int32 → Int64 → CS → Option (Int32 × CS)) (hk7 : ∀ (x1 : Int32) (x2 : Int32) (x3 : Int64) (σ1 : CS) (H : Heap) (locs : List Loc) (ls : Array Slot), k7 x1 x2 x3 σ1 = some (r, σ') → gB D vwCl (va_A (CW cI cJ cQ ad ra σ) s.heap.size) s.heap (CW cI cJ cQ ad ra σ1) [] H locs → lv_has ls 5 [(0, .ref (ad 4)), (1, .int x1), (2, .int x2), (3, .long x3)] → W p l e rmX9_readWord s m args below meth c H locs 0 0 (MQ below (gQ D vwCl (CW cI cJ cQ ad ra σ) (CW cI cJ cQ ad ra σ') (some (.int r)) s.heap.size) args s 0 0 (va_A (CW cI cJ cQ ad ra σ) s.heap.size)) (F0 m 7 ls [])), ∀ (x1 : Int32) (x2 : Int32) (x3 : Int64) (σ1 : CS) (H : Heap) (locs : List Loc) (ls : Array Slot), FX9_readWord_55 L k7 x1 x2 x3 σ1 = some (r, σ') → gB D vwCl (va_A (CW cI cJ cQ ad ra σ) s.heap.size) s.heap (CW cI cJ cQ ad ra σ1) [] H locs → lv_has ls 5 [(0, .ref (ad 4)), (1, .int x1), (2, .int x2), (3, .long x3)] → W p l e rmX9_readWord s m args below meth c H locs 0 0 (MQ below (gQ D vwCl (CW cI cJ cQ ad ra σ) (CW cI cJ cQ ad ra σ') (some (.int r)) s.heap.size) args s 0 0 (va_A (CW cI cJ cQ ad ra σ) s.heap.size)) (F0 m 55 ls []) := by
    intro k7 hk7 x1 x2 x3 σ1 H locs ls h hB hl
    rw [FX9_readWord_55] at h
    refine lv_lload_n S.1 S.2.1 dX9_readWord_55 rfl (lv_at hl 3 rfl) ?_
    refine lv_ldc2 (v := 256) S.1 S.2.1 S.2.2.2.1 (S.2.2.2.2 _ (List.mem_cons_of_mem _ wk_X9_57)) dX9_readWord_56 ?_
    refine lv_lmul S.1 S.2.1 dX9_readWord_59 ?_
    refine lv_aload_n S.1 S.2.1 dX9_readWord_60 rfl (lv_at hl 0 rfl) ?_
    refine tg_4_0 S hK hB (S.2.2.2.2 _ (List.mem_cons_of_mem _ wf_X9_9)) dX9_readWord_61 ?_
    refine lv_aload_n S.1 S.2.1 dX9_readWord_64 rfl (lv_at hl 0 rfl) ?_
    refine tg_4_5 S hK hB (S.2.2.2.2 _ (List.mem_cons_of_mem _ wf_X9_59)) rfl dX9_readWord_65 ?_
    obtain ⟨r_7, σ_7, e_7, h⟩ := b2s h
    refine cCallI S hK cKSc hKS hA (kX8_byteAt e_7) (cwX9_77 S.2.2.2.2 (rm := rmX8_byteAt) rfl rfl ⟨Nat.le_of_ble_eq_true rfl, Nat.le_of_ble_eq_true rfl⟩) hB 1 rfl rfl rfl hl.1 rfl (lv_room (Nat.le_of_ble_eq_true rfl)) dX9_readWord_68 ⟨Nat.zero_le _, Nat.zero_le _⟩ (fun H locs hB => ?_)
    refine lv_i2l (v := r_7.toInt64) S.1 S.2.1 dX9_readWord_71 rfl ?_
    refine lv_ladd S.1 S.2.1 dX9_readWord_72 ?_
    refine lv_lstore_n (lv' := [(3, .long ((x3 * (256 : Int64)) + r_7.toInt64)), (0, .ref (ad 4)), (1, .int x1), (2, .int x2)]) S.1 S.2.1 dX9_readWord_73 rfl hl (by decide) rfl (fun ls hl => ?_)
    refine lv_aload_n S.1 S.2.1 dX9_readWord_74 rfl (lv_at hl 1 rfl) ?_
    refine lv_dup S.1 S.2.1 dX9_readWord_75 rfl ?_
    refine tg_4_5 S hK hB (S.2.2.2.2 _ (List.mem_cons_of_mem _ wf_X9_59)) rfl dX9_readWord_76 ?_
    refine lv_iconst (v := (1 : Int32)) S.1 S.2.1 dX9_readWord_79 (by decide) ?_
    refine lv_iadd S.1 S.2.1 dX9_readWord_80 ?_
    refine tp_4_5 S hK hB (S.2.2.2.2 _ (List.mem_cons_of_mem _ wf_X9_59)) dX9_readWord_81 (fun H locs hB => ?_)
    refine lv_goto (tgt := 7) S.1 S.2.1 dX9_readWord_84 (by decide) ?_
    exact hk7 _ _ _ _ _ _ _ h hB (lv_sub hl [1, 2, 3, 0] rfl)
  have P7 : ∀  (n : Nat), ∀ (x1 : Int32) (x2 : Int32) (x3 : Int64) (σ1 : CS) (H : Heap) (locs : List Loc) (ls : Array Slot), FX9_readWord_7 L n x1 x2 x3 σ1 = some (r, σ') → gB D vwCl (va_A (CW cI cJ cQ ad ra σ) s.heap.size) s.heap (CW cI cJ cQ ad ra σ1) [] H locs → lv_has ls 5 [(0, .ref (ad 4)), (1, .int x1), (2, .int x2), (3, .long x3)] → W p l e rmX9_readWord s m args below meth c H locs 0 0 (MQ below (gQ D vwCl (CW cI cJ cQ ad ra σ) (CW cI cJ cQ ad ra σ') (some (.int r)) s.heap.size) args s 0 0 (va_A (CW cI cJ cQ ad ra σ) s.heap.size)) (F0 m 7 ls []) := by
    intro n
    induction n with
    | zero => intro x1 x2 x3 σ1 H locs ls h; simp only [FX9_readWord_7] at h; cases h
    | succ n ih =>
      intro x1 x2 x3 σ1 H locs ls h hB hl
      rw [FX9_readWord_7] at h
      refine lv_aload_n S.1 S.2.1 dX9_readWord_7 rfl (lv_at hl 0 rfl) ?_
      refine tg_4_5 S hK hB (S.2.2.2.2 _ (List.mem_cons_of_mem _ wf_X9_59)) rfl dX9_readWord_8 ?_
      refine lv_aload_n S.1 S.2.1 dX9_readWord_11 rfl (lv_at hl 0 rfl) ?_
      refine tg_4_0 S hK hB (S.2.2.2.2 _ (List.mem_cons_of_mem _ wf_X9_9)) dX9_readWord_12 ?_
      refine tgN_1_1 S hK hB (nF hKS 1 rfl) rfl dX9_readWord_15 ?_
      refine lv_icmp_ge (tgt := 87) S.1 S.2.1 dX9_readWord_18 (by decide) (fun c_1 => ?_) (fun c_1 => ?_)
      · replace h := (if_pos c_1).symm.trans h
        exact P87  _ _ _ _ _ _ _ h hB hl
      · replace h := (if_neg c_1).symm.trans h
        refine lv_aload_n S.1 S.2.1 dX9_readWord_21 rfl (lv_at hl 0 rfl) ?_
        refine tg_4_0 S hK hB (S.2.2.2.2 _ (List.mem_cons_of_mem _ wf_X9_9)) dX9_readWord_22 ?_
        refine lv_aload_n S.1 S.2.1 dX9_readWord_25 rfl (lv_at hl 0 rfl) ?_
        refine tg_4_5 S hK hB (S.2.2.2.2 _ (List.mem_cons_of_mem _ wf_X9_59)) rfl dX9_readWord_26 ?_
        obtain ⟨r_4, σ_4, e_4, h⟩ := b2s h
        refine cCallI S hK cKSc hKS hA (kX8_byteAt e_4) (cwX9_77 S.2.2.2.2 (rm := rmX8_byteAt) rfl rfl ⟨Nat.le_of_ble_eq_true rfl, Nat.le_of_ble_eq_true rfl⟩) hB 1 rfl rfl rfl hl.1 rfl (lv_room (Nat.le_of_ble_eq_true rfl)) dX9_readWord_29 ⟨Nat.zero_le _, Nat.zero_le _⟩ (fun H locs hB => ?_)
        obtain ⟨r_5, e_5, h⟩ := bnd h
        refine cCallSI S hK cKSc hKS hA (kX9_isLetter e_5) (cwX9_80 S.2.2.2.2 (rm := rmX9_isLetter) rfl rfl ⟨Nat.le_of_ble_eq_true rfl, Nat.le_of_ble_eq_true rfl⟩) hB rfl hl.1 rfl (lv_room (Nat.le_of_ble_eq_true rfl)) dX9_readWord_32 ⟨Nat.zero_le _, Nat.zero_le _⟩ (fun H locs hB => ?_)
        refine lv_if_ne (tgt := 55) S.1 S.2.1 dX9_readWord_35 (by decide) (fun c_6 => ?_) (fun c_6 => ?_)
        · replace h := (if_neg c_6).symm.trans h
          exact P55 (FX9_readWord_7 L n) ih _ _ _ _ _ _ _ h hB hl
        · replace h := (if_pos c_6).symm.trans h
          refine lv_aload_n S.1 S.2.1 dX9_readWord_38 rfl (lv_at hl 0 rfl) ?_
          refine tg_4_0 S hK hB (S.2.2.2.2 _ (List.mem_cons_of_mem _ wf_X9_9)) dX9_readWord_39 ?_
          refine lv_aload_n S.1 S.2.1 dX9_readWord_42 rfl (lv_at hl 0 rfl) ?_
          refine tg_4_5 S hK hB (S.2.2.2.2 _ (List.mem_cons_of_mem _ wf_X9_59)) rfl dX9_readWord_43 ?_
          obtain ⟨r_8, σ_8, e_8, h⟩ := b2s h
          refine cCallI S hK cKSc hKS hA (kX8_byteAt e_8) (cwX9_77 S.2.2.2.2 (rm := rmX8_byteAt) rfl rfl ⟨Nat.le_of_ble_eq_true rfl, Nat.le_of_ble_eq_true rfl⟩) hB 1 rfl rfl rfl hl.1 rfl (lv_room (Nat.le_of_ble_eq_true rfl)) dX9_readWord_46 ⟨Nat.zero_le _, Nat.zero_le _⟩ (fun H locs hB => ?_)
          obtain ⟨r_9, e_9, h⟩ := bnd h
          refine cCallSI S hK cKSc hKS hA (kX9_isDigit e_9) (cwX9_87 S.2.2.2.2 (rm := rmX9_isDigit) rfl rfl ⟨Nat.le_of_ble_eq_true rfl, Nat.le_of_ble_eq_true rfl⟩) hB rfl hl.1 rfl (lv_room (Nat.le_of_ble_eq_true rfl)) dX9_readWord_49 ⟨Nat.zero_le _, Nat.zero_le _⟩ (fun H locs hB => ?_)
          refine lv_if_eq (tgt := 87) S.1 S.2.1 dX9_readWord_52 (by decide) (fun c_10 => ?_) (fun c_10 => ?_)
          · replace h := (if_pos c_10).symm.trans h
            exact P87  _ _ _ _ _ _ _ h hB hl
          · replace h := (if_neg c_10).symm.trans h
            exact P55 (FX9_readWord_7 L n) ih _ _ _ _ _ _ _ h hB hl
  refine lv_aload_n S.1 S.2.1 dX9_readWord_0 rfl (lv_at hl 0 rfl) ?_
  refine tg_4_5 S hK hB (S.2.2.2.2 _ (List.mem_cons_of_mem _ wf_X9_59)) rfl dX9_readWord_1 ?_
  refine lv_istore_n (lv' := [(2, .int (σ.1 405)), (0, .ref (ad 4)), (1, .int p0)]) S.1 S.2.1 dX9_readWord_4 rfl hl (by decide) rfl (fun ls hl => ?_)
  refine lv_lconst (v := 0) S.1 S.2.1 dX9_readWord_5 (by decide) ?_
  refine lv_lstore_n (lv' := [(3, .long (0 : Int64)), (2, .int (σ.1 405)), (0, .ref (ad 4)), (1, .int p0)]) S.1 S.2.1 dX9_readWord_6 rfl hl (by decide) rfl (fun ls hl => ?_)
  exact P7  L _ _ _ _ _ _ _ h hB (lv_sub hl [2, 3, 1, 0] rfl)
def FX9_readNumber_73 (L : Nat)  (x1 : Int32) (x2 : Int32) (x3 : Int64) (σ1 : CS) : Option (Int32 × CS) :=
    if ((σ1.1 405) - x2) ≤ (6 : Int32) then
      some ((52 : Int32), (tB σ1 12 (putL 401 (σ1.2.2.2.1 12) x1 x3)))
    else
      some ((54 : Int32), (tB σ1 12 (putL 401 (σ1.2.2.2.1 12) x1 x3)))
def FX9_readNumber_7 (L : Nat)  : Nat → Int32 → Int32 → Int64 → CS → Option (Int32 × CS)
  | 0, _, _, _, _ => none
  | n+1, x1, x2, x3, σ1 =>
    if (σ1.1 101) ≤ (σ1.1 405) then
      FX9_readNumber_73 L x1 x2 x3 σ1
    else
      b2 (FX8_byteAt (σ1.1 405) σ1) fun r_3 σ_3 =>
      (FX9_isDigit r_3).bind fun r_4 =>
      if r_4 = 0 then
        FX9_readNumber_73 L x1 x2 x3 σ_3
      else
        b2 (FX8_byteAt (σ_3.1 405) σ_3) fun r_6 σ_6 =>
        (FX9_readNumber_7 L n) x1 x2 ((x3 * (10 : Int64)) + ((r_6 - (48 : Int32)).toInt64)) (tI σ_6 405 ((σ_6.1 405) + (1 : Int32)))
def FX9_readNumber (L : Nat) (p0 : Int32) (σ : CS) : Option (Int32 × CS) :=
  FX9_readNumber_7 L L p0 (σ.1 405) (0 : Int64) σ
abbrev rmX9_readNumber : Room := { frames := 2, cells := 0, slots := 0, locals := 42 }
set_option maxRecDepth 100000 in
set_option maxHeartbeats 4000000 in
theorem kX9_readNumber {l : Launch} {D : va_G} {cI cJ cQ : ClassId} {ad : Nat → Nat} {ra : Nat → Nat → Nat} {adK adV tK : Nat → Nat} {L : Nat} {p0 : Int32} {σ σ' : CS} {r : Int32} (h : FX9_readNumber L p0 σ = some (r, σ')) : gMet l yX9_readNumber qX9_readNumber rmX9_readNumber 0 0 D vwCl [(cI, .int), (cJ, .long), (cQ, .array .long)] (cKS adK adV tK) [.ref (ad 4), .int p0] (CW cI cJ cQ ad ra σ) (CW cI cJ cQ ad ra σ') (some (.int r)) := by
  refine gMet.of (cc := cX9_readNumber) (maxL := 5) (ret := (some .int)) (by decide) rfl (Nat.le_of_ble_eq_true rfl) ?_
  intro p e s m args below meth c S hr hlk hnm hK hKS hA hB ls hl
  have hl : lv_has ls 5 [(0, .ref (ad 4)), (1, .int p0)] := hl
  replace S : CallFix p m c cX9_readNumber 5 s args (_ :: wsL_law) RX9 := S
  rw [FX9_readNumber] at h
  have P73 : ∀ (x1 : Int32) (x2 : Int32) (x3 : Int64) (σ1 : CS) (H : Heap) (locs : List Loc) (ls : Array Slot), FX9_readNumber_73 L x1 x2 x3 σ1 = some (r, σ') → gB D vwCl (va_A (CW cI cJ cQ ad ra σ) s.heap.size) s.heap (CW cI cJ cQ ad ra σ1) [] H locs → lv_has ls 5 [(0, .ref (ad 4)), (1, .int x1), (2, .int x2), (3, .long x3)] → W p l e rmX9_readNumber s m args below meth c H locs 0 0 (MQ below (gQ D vwCl (CW cI cJ cQ ad ra σ) (CW cI cJ cQ ad ra σ') (some (.int r)) s.heap.size) args s 0 0 (va_A (CW cI cJ cQ ad ra σ) s.heap.size)) (F0 m 73 ls []) := by
    intro  x1 x2 x3 σ1 H locs ls h hB hl
    rw [FX9_readNumber_73] at h
    refine lv_aload_n S.1 S.2.1 dX9_readNumber_73 rfl (lv_at hl 0 rfl) ?_
    refine tg_4_4 S hK hB (S.2.2.2.2 _ (List.mem_cons_of_mem _ wf_X9_38)) dX9_readNumber_74 ?_
    refine lv_iload_n S.1 S.2.1 dX9_readNumber_77 rfl (lv_at hl 1 rfl) ?_
    refine lv_lload_n S.1 S.2.1 dX9_readNumber_78 rfl (lv_at hl 3 rfl) ?_
    refine lp_11 S hK cKSc hKS hA hB (cwX9_53 S.2.2.2.2 (rm := { frames := 0, cells := 0, slots := 0, locals := 0 }) rfl rfl ⟨Nat.le_of_ble_eq_true rfl, Nat.le_of_ble_eq_true rfl⟩) hl.1 (lv_room (Nat.le_of_ble_eq_true rfl)) dX9_readNumber_79 ⟨Nat.zero_le _, Nat.zero_le _⟩ (fun H locs hB => ?_)
    refine lv_aload_n S.1 S.2.1 dX9_readNumber_82 rfl (lv_at hl 0 rfl) ?_
    refine tg_4_5 (v := (σ1.1 405)) S hK hB (S.2.2.2.2 _ (List.mem_cons_of_mem _ wf_X9_59)) rfl dX9_readNumber_83 ?_
    refine lv_iload_n S.1 S.2.1 dX9_readNumber_86 rfl (lv_at hl 2 rfl) ?_
    refine lv_isub S.1 S.2.1 dX9_readNumber_87 ?_
    refine lv_bipush (v := (6 : Int32)) S.1 S.2.1 dX9_readNumber_88 (by decide) ?_
    refine lv_icmp_le (tgt := 98) S.1 S.2.1 dX9_readNumber_90 (by decide) (fun c_2 => ?_) (fun c_2 => ?_)
    · replace h := (if_pos c_2).symm.trans h
      refine lv_bipush (v := (52 : Int32)) S.1 S.2.1 dX9_readNumber_98 (by decide) ?_
      cases h
      exact gRetI S.1 S.2.1 hr hlk hB dX9_readNumber_100
    · replace h := (if_neg c_2).symm.trans h
      refine lv_bipush (v := (54 : Int32)) S.1 S.2.1 dX9_readNumber_93 (by decide) ?_
      refine lv_goto (tgt := 100) S.1 S.2.1 dX9_readNumber_95 (by decide) ?_
      cases h
      exact gRetI S.1 S.2.1 hr hlk hB dX9_readNumber_100
  have P7 : ∀  (n : Nat), ∀ (x1 : Int32) (x2 : Int32) (x3 : Int64) (σ1 : CS) (H : Heap) (locs : List Loc) (ls : Array Slot), FX9_readNumber_7 L n x1 x2 x3 σ1 = some (r, σ') → gB D vwCl (va_A (CW cI cJ cQ ad ra σ) s.heap.size) s.heap (CW cI cJ cQ ad ra σ1) [] H locs → lv_has ls 5 [(0, .ref (ad 4)), (1, .int x1), (2, .int x2), (3, .long x3)] → W p l e rmX9_readNumber s m args below meth c H locs 0 0 (MQ below (gQ D vwCl (CW cI cJ cQ ad ra σ) (CW cI cJ cQ ad ra σ') (some (.int r)) s.heap.size) args s 0 0 (va_A (CW cI cJ cQ ad ra σ) s.heap.size)) (F0 m 7 ls []) := by
    intro n
    induction n with
    | zero => intro x1 x2 x3 σ1 H locs ls h; simp only [FX9_readNumber_7] at h; cases h
    | succ n ih =>
      intro x1 x2 x3 σ1 H locs ls h hB hl
      rw [FX9_readNumber_7] at h
      refine lv_aload_n S.1 S.2.1 dX9_readNumber_7 rfl (lv_at hl 0 rfl) ?_
      refine tg_4_5 S hK hB (S.2.2.2.2 _ (List.mem_cons_of_mem _ wf_X9_59)) rfl dX9_readNumber_8 ?_
      refine lv_aload_n S.1 S.2.1 dX9_readNumber_11 rfl (lv_at hl 0 rfl) ?_
      refine tg_4_0 S hK hB (S.2.2.2.2 _ (List.mem_cons_of_mem _ wf_X9_9)) dX9_readNumber_12 ?_
      refine tgN_1_1 S hK hB (nF hKS 1 rfl) rfl dX9_readNumber_15 ?_
      refine lv_icmp_ge (tgt := 73) S.1 S.2.1 dX9_readNumber_18 (by decide) (fun c_1 => ?_) (fun c_1 => ?_)
      · replace h := (if_pos c_1).symm.trans h
        exact P73  _ _ _ _ _ _ _ h hB hl
      · replace h := (if_neg c_1).symm.trans h
        refine lv_aload_n S.1 S.2.1 dX9_readNumber_21 rfl (lv_at hl 0 rfl) ?_
        refine tg_4_0 S hK hB (S.2.2.2.2 _ (List.mem_cons_of_mem _ wf_X9_9)) dX9_readNumber_22 ?_
        refine lv_aload_n S.1 S.2.1 dX9_readNumber_25 rfl (lv_at hl 0 rfl) ?_
        refine tg_4_5 S hK hB (S.2.2.2.2 _ (List.mem_cons_of_mem _ wf_X9_59)) rfl dX9_readNumber_26 ?_
        obtain ⟨r_3, σ_3, e_3, h⟩ := b2s h
        refine cCallI S hK cKSc hKS hA (kX8_byteAt e_3) (cwX9_77 S.2.2.2.2 (rm := rmX8_byteAt) rfl rfl ⟨Nat.le_of_ble_eq_true rfl, Nat.le_of_ble_eq_true rfl⟩) hB 1 rfl rfl rfl hl.1 rfl (lv_room (Nat.le_of_ble_eq_true rfl)) dX9_readNumber_29 ⟨Nat.zero_le _, Nat.zero_le _⟩ (fun H locs hB => ?_)
        obtain ⟨r_4, e_4, h⟩ := bnd h
        refine cCallSI S hK cKSc hKS hA (kX9_isDigit e_4) (cwX9_87 S.2.2.2.2 (rm := rmX9_isDigit) rfl rfl ⟨Nat.le_of_ble_eq_true rfl, Nat.le_of_ble_eq_true rfl⟩) hB rfl hl.1 rfl (lv_room (Nat.le_of_ble_eq_true rfl)) dX9_readNumber_32 ⟨Nat.zero_le _, Nat.zero_le _⟩ (fun H locs hB => ?_)
        refine lv_if_eq (tgt := 73) S.1 S.2.1 dX9_readNumber_35 (by decide) (fun c_5 => ?_) (fun c_5 => ?_)
        · replace h := (if_pos c_5).symm.trans h
          exact P73  _ _ _ _ _ _ _ h hB hl
        · replace h := (if_neg c_5).symm.trans h
          refine lv_lload_n S.1 S.2.1 dX9_readNumber_38 rfl (lv_at hl 3 rfl) ?_
          refine lv_ldc2 (v := 10) S.1 S.2.1 S.2.2.2.1 (S.2.2.2.2 _ (List.mem_cons_of_mem _ wk_X9_104)) dX9_readNumber_39 ?_
          refine lv_lmul S.1 S.2.1 dX9_readNumber_42 ?_
          refine lv_aload_n S.1 S.2.1 dX9_readNumber_43 rfl (lv_at hl 0 rfl) ?_
          refine tg_4_0 S hK hB (S.2.2.2.2 _ (List.mem_cons_of_mem _ wf_X9_9)) dX9_readNumber_44 ?_
          refine lv_aload_n S.1 S.2.1 dX9_readNumber_47 rfl (lv_at hl 0 rfl) ?_
          refine tg_4_5 S hK hB (S.2.2.2.2 _ (List.mem_cons_of_mem _ wf_X9_59)) rfl dX9_readNumber_48 ?_
          obtain ⟨r_6, σ_6, e_6, h⟩ := b2s h
          refine cCallI S hK cKSc hKS hA (kX8_byteAt e_6) (cwX9_77 S.2.2.2.2 (rm := rmX8_byteAt) rfl rfl ⟨Nat.le_of_ble_eq_true rfl, Nat.le_of_ble_eq_true rfl⟩) hB 1 rfl rfl rfl hl.1 rfl (lv_room (Nat.le_of_ble_eq_true rfl)) dX9_readNumber_51 ⟨Nat.zero_le _, Nat.zero_le _⟩ (fun H locs hB => ?_)
          refine lv_bipush (v := (48 : Int32)) S.1 S.2.1 dX9_readNumber_54 (by decide) ?_
          refine lv_isub S.1 S.2.1 dX9_readNumber_56 ?_
          refine lv_i2l (v := ((r_6 - (48 : Int32)).toInt64)) S.1 S.2.1 dX9_readNumber_57 rfl ?_
          refine lv_ladd S.1 S.2.1 dX9_readNumber_58 ?_
          refine lv_lstore_n (lv' := [(3, .long ((x3 * (10 : Int64)) + ((r_6 - (48 : Int32)).toInt64))), (0, .ref (ad 4)), (1, .int x1), (2, .int x2)]) S.1 S.2.1 dX9_readNumber_59 rfl hl (by decide) rfl (fun ls hl => ?_)
          refine lv_aload_n S.1 S.2.1 dX9_readNumber_60 rfl (lv_at hl 1 rfl) ?_
          refine lv_dup S.1 S.2.1 dX9_readNumber_61 rfl ?_
          refine tg_4_5 S hK hB (S.2.2.2.2 _ (List.mem_cons_of_mem _ wf_X9_59)) rfl dX9_readNumber_62 ?_
          refine lv_iconst (v := (1 : Int32)) S.1 S.2.1 dX9_readNumber_65 (by decide) ?_
          refine lv_iadd S.1 S.2.1 dX9_readNumber_66 ?_
          refine tp_4_5 S hK hB (S.2.2.2.2 _ (List.mem_cons_of_mem _ wf_X9_59)) dX9_readNumber_67 (fun H locs hB => ?_)
          refine lv_goto (tgt := 7) S.1 S.2.1 dX9_readNumber_70 (by decide) ?_
          exact ih _ _ _ _ _ _ _ h hB (lv_sub hl [1, 2, 3, 0] rfl)
  refine lv_aload_n S.1 S.2.1 dX9_readNumber_0 rfl (lv_at hl 0 rfl) ?_
  refine tg_4_5 S hK hB (S.2.2.2.2 _ (List.mem_cons_of_mem _ wf_X9_59)) rfl dX9_readNumber_1 ?_
  refine lv_istore_n (lv' := [(2, .int (σ.1 405)), (0, .ref (ad 4)), (1, .int p0)]) S.1 S.2.1 dX9_readNumber_4 rfl hl (by decide) rfl (fun ls hl => ?_)
  refine lv_lconst (v := 0) S.1 S.2.1 dX9_readNumber_5 (by decide) ?_
  refine lv_lstore_n (lv' := [(3, .long (0 : Int64)), (2, .int (σ.1 405)), (0, .ref (ad 4)), (1, .int p0)]) S.1 S.2.1 dX9_readNumber_6 rfl hl (by decide) rfl (fun ls hl => ?_)
  exact P7  L _ _ _ _ _ _ _ h hB (lv_sub hl [2, 3, 1, 0] rfl)
def FX9_readSymbol (p0 : Int32) (σ : CS) : Option (Int32 × CS) :=
  b2 (FX8_byteAt ((σ.1 405) + (1 : Int32)) σ) fun r_1 σ_1 =>
  (FX9_symbolOfTwo p0 r_1).bind fun r_2 =>
  if r_2 = (54 : Int32) then
    (FX9_symbolOfOne p0).bind fun r_4 =>
    some (r_4, (tI σ_1 405 ((σ_1.1 405) + (1 : Int32))))
  else
    some (r_2, (tI σ_1 405 ((σ_1.1 405) + (2 : Int32))))
abbrev rmX9_readSymbol : Room := { frames := 2, cells := 0, slots := 0, locals := 42 }
set_option maxRecDepth 100000 in
set_option maxHeartbeats 4000000 in
theorem kX9_readSymbol {l : Launch} {D : va_G} {cI cJ cQ : ClassId} {ad : Nat → Nat} {ra : Nat → Nat → Nat} {adK adV tK : Nat → Nat} {p0 : Int32} {σ σ' : CS} {r : Int32} (h : FX9_readSymbol p0 σ = some (r, σ')) : gMet l yX9_readSymbol qX9_readSymbol rmX9_readSymbol 0 0 D vwCl [(cI, .int), (cJ, .long), (cQ, .array .long)] (cKS adK adV tK) [.ref (ad 4), .int p0] (CW cI cJ cQ ad ra σ) (CW cI cJ cQ ad ra σ') (some (.int r)) := by
  refine gMet.of (cc := cX9_readSymbol) (maxL := 3) (ret := (some .int)) (by decide) rfl (Nat.le_of_ble_eq_true rfl) ?_
  intro p e s m args below meth c S hr hlk hnm hK hKS hA hB ls hl
  have hl : lv_has ls 3 [(0, .ref (ad 4)), (1, .int p0)] := hl
  replace S : CallFix p m c cX9_readSymbol 3 s args (_ :: wsL_law) RX9 := S
  rw [FX9_readSymbol] at h
  refine lv_iload_n S.1 S.2.1 dX9_readSymbol_0 rfl (lv_at hl 1 rfl) ?_
  refine lv_aload_n S.1 S.2.1 dX9_readSymbol_1 rfl (lv_at hl 0 rfl) ?_
  refine tg_4_0 S hK hB (S.2.2.2.2 _ (List.mem_cons_of_mem _ wf_X9_9)) dX9_readSymbol_2 ?_
  refine lv_aload_n S.1 S.2.1 dX9_readSymbol_5 rfl (lv_at hl 0 rfl) ?_
  refine tg_4_5 S hK hB (S.2.2.2.2 _ (List.mem_cons_of_mem _ wf_X9_59)) rfl dX9_readSymbol_6 ?_
  refine lv_iconst (v := (1 : Int32)) S.1 S.2.1 dX9_readSymbol_9 (by decide) ?_
  refine lv_iadd S.1 S.2.1 dX9_readSymbol_10 ?_
  obtain ⟨r_1, σ_1, e_1, h⟩ := b2s h
  refine cCallI S hK cKSc hKS hA (kX8_byteAt e_1) (cwX9_77 S.2.2.2.2 (rm := rmX8_byteAt) rfl rfl ⟨Nat.le_of_ble_eq_true rfl, Nat.le_of_ble_eq_true rfl⟩) hB 1 rfl rfl rfl hl.1 rfl (lv_room (Nat.le_of_ble_eq_true rfl)) dX9_readSymbol_11 ⟨Nat.zero_le _, Nat.zero_le _⟩ (fun H locs hB => ?_)
  obtain ⟨r_2, e_2, h⟩ := bnd h
  refine cCallSI S hK cKSc hKS hA (kX9_symbolOfTwo e_2) (cwX9_106 S.2.2.2.2 (rm := rmX9_symbolOfTwo) rfl rfl ⟨Nat.le_of_ble_eq_true rfl, Nat.le_of_ble_eq_true rfl⟩) hB rfl hl.1 rfl (lv_room (Nat.le_of_ble_eq_true rfl)) dX9_readSymbol_14 ⟨Nat.zero_le _, Nat.zero_le _⟩ (fun H locs hB => ?_)
  refine lv_istore_n (lv' := [(2, .int r_2), (0, .ref (ad 4)), (1, .int p0)]) S.1 S.2.1 dX9_readSymbol_17 rfl hl (by decide) rfl (fun ls hl => ?_)
  refine lv_iload_n S.1 S.2.1 dX9_readSymbol_18 rfl (lv_at hl 0 rfl) ?_
  refine lv_bipush (v := (54 : Int32)) S.1 S.2.1 dX9_readSymbol_19 (by decide) ?_
  refine lv_icmp_eq (tgt := 36) S.1 S.2.1 dX9_readSymbol_21 (by decide) (fun c_3 => ?_) (fun c_3 => ?_)
  · replace h := (if_pos c_3).symm.trans h
    refine lv_aload_n S.1 S.2.1 dX9_readSymbol_36 rfl (lv_at hl 1 rfl) ?_
    refine lv_dup S.1 S.2.1 dX9_readSymbol_37 rfl ?_
    refine tg_4_5 S hK hB (S.2.2.2.2 _ (List.mem_cons_of_mem _ wf_X9_59)) rfl dX9_readSymbol_38 ?_
    refine lv_iconst (v := (1 : Int32)) S.1 S.2.1 dX9_readSymbol_41 (by decide) ?_
    refine lv_iadd S.1 S.2.1 dX9_readSymbol_42 ?_
    refine tp_4_5 S hK hB (S.2.2.2.2 _ (List.mem_cons_of_mem _ wf_X9_59)) dX9_readSymbol_43 (fun H locs hB => ?_)
    refine lv_iload_n S.1 S.2.1 dX9_readSymbol_46 rfl (lv_at hl 2 rfl) ?_
    obtain ⟨r_4, e_4, h⟩ := bnd h
    refine cCallSI S hK cKSc hKS hA (kX9_symbolOfOne e_4) (cwX9_110 S.2.2.2.2 (rm := rmX9_symbolOfOne) rfl rfl ⟨Nat.le_of_ble_eq_true rfl, Nat.le_of_ble_eq_true rfl⟩) hB rfl hl.1 rfl (lv_room (Nat.le_of_ble_eq_true rfl)) dX9_readSymbol_47 ⟨Nat.zero_le _, Nat.zero_le _⟩ (fun H locs hB => ?_)
    cases h
    exact gRetI S.1 S.2.1 hr hlk hB dX9_readSymbol_50
  · replace h := (if_neg c_3).symm.trans h
    refine lv_aload_n S.1 S.2.1 dX9_readSymbol_24 rfl (lv_at hl 1 rfl) ?_
    refine lv_dup S.1 S.2.1 dX9_readSymbol_25 rfl ?_
    refine tg_4_5 S hK hB (S.2.2.2.2 _ (List.mem_cons_of_mem _ wf_X9_59)) rfl dX9_readSymbol_26 ?_
    refine lv_iconst (v := (2 : Int32)) S.1 S.2.1 dX9_readSymbol_29 (by decide) ?_
    refine lv_iadd S.1 S.2.1 dX9_readSymbol_30 ?_
    refine tp_4_5 S hK hB (S.2.2.2.2 _ (List.mem_cons_of_mem _ wf_X9_59)) dX9_readSymbol_31 (fun H locs hB => ?_)
    refine lv_iload_n S.1 S.2.1 dX9_readSymbol_34 rfl (lv_at hl 0 rfl) ?_
    cases h
    exact gRetI S.1 S.2.1 hr hlk hB dX9_readSymbol_35
def FX9_readToken (L : Nat) (p0 : Int32) (σ : CS) : Option (Int32 × CS) :=
  b2 (FX8_byteAt (σ.1 405) σ) fun r_1 σ_1 =>
  if r_1 = (-1 : Int32) then
    some ((53 : Int32), σ_1)
  else
    (FX9_isLetter r_1).bind fun r_3 =>
    if r_3 = 0 then
      (FX9_isDigit r_1).bind fun r_5 =>
      if r_5 = 0 then
        b2 (FX9_readSymbol r_1 σ_1) fun r_7 σ_7 =>
        some (r_7, σ_7)
      else
        b2 (FX9_readNumber L p0 σ_1) fun r_8 σ_8 =>
        some (r_8, σ_8)
    else
      b2 (FX9_readWord L p0 σ_1) fun r_9 σ_9 =>
      some (r_9, σ_9)
abbrev rmX9_readToken : Room := { frames := 3, cells := 0, slots := 0, locals := 68 }
set_option maxRecDepth 100000 in
set_option maxHeartbeats 4000000 in
theorem kX9_readToken {l : Launch} {D : va_G} {cI cJ cQ : ClassId} {ad : Nat → Nat} {ra : Nat → Nat → Nat} {adK adV tK : Nat → Nat} {L : Nat} {p0 : Int32} {σ σ' : CS} {r : Int32} (h : FX9_readToken L p0 σ = some (r, σ')) : gMet l yX9_readToken qX9_readToken rmX9_readToken 0 0 D vwCl [(cI, .int), (cJ, .long), (cQ, .array .long)] (cKS adK adV tK) [.ref (ad 4), .int p0] (CW cI cJ cQ ad ra σ) (CW cI cJ cQ ad ra σ') (some (.int r)) := by
  refine gMet.of (cc := cX9_readToken) (maxL := 3) (ret := (some .int)) (by decide) rfl (Nat.le_of_ble_eq_true rfl) ?_
  intro p e s m args below meth c S hr hlk hnm hK hKS hA hB ls hl
  have hl : lv_has ls 3 [(0, .ref (ad 4)), (1, .int p0)] := hl
  replace S : CallFix p m c cX9_readToken 3 s args (_ :: wsL_law) RX9 := S
  rw [FX9_readToken] at h
  refine lv_aload_n S.1 S.2.1 dX9_readToken_0 rfl (lv_at hl 0 rfl) ?_
  refine tg_4_0 S hK hB (S.2.2.2.2 _ (List.mem_cons_of_mem _ wf_X9_9)) dX9_readToken_1 ?_
  refine lv_aload_n S.1 S.2.1 dX9_readToken_4 rfl (lv_at hl 0 rfl) ?_
  refine tg_4_5 S hK hB (S.2.2.2.2 _ (List.mem_cons_of_mem _ wf_X9_59)) rfl dX9_readToken_5 ?_
  obtain ⟨r_1, σ_1, e_1, h⟩ := b2s h
  refine cCallI S hK cKSc hKS hA (kX8_byteAt e_1) (cwX9_77 S.2.2.2.2 (rm := rmX8_byteAt) rfl rfl ⟨Nat.le_of_ble_eq_true rfl, Nat.le_of_ble_eq_true rfl⟩) hB 1 rfl rfl rfl hl.1 rfl (lv_room (Nat.le_of_ble_eq_true rfl)) dX9_readToken_8 ⟨Nat.zero_le _, Nat.zero_le _⟩ (fun H locs hB => ?_)
  refine lv_istore_n (lv' := [(2, .int r_1), (0, .ref (ad 4)), (1, .int p0)]) S.1 S.2.1 dX9_readToken_11 rfl hl (by decide) rfl (fun ls hl => ?_)
  refine lv_iload_n S.1 S.2.1 dX9_readToken_12 rfl (lv_at hl 0 rfl) ?_
  refine lv_iconst (v := (-1 : Int32)) S.1 S.2.1 dX9_readToken_13 (by decide) ?_
  refine lv_icmp_ne (tgt := 20) S.1 S.2.1 dX9_readToken_14 (by decide) (fun c_2 => ?_) (fun c_2 => ?_)
  · replace h := (if_neg c_2).symm.trans h
    refine lv_iload_n S.1 S.2.1 dX9_readToken_20 rfl (lv_at hl 0 rfl) ?_
    obtain ⟨r_3, e_3, h⟩ := bnd h
    refine cCallSI S hK cKSc hKS hA (kX9_isLetter e_3) (cwX9_80 S.2.2.2.2 (rm := rmX9_isLetter) rfl rfl ⟨Nat.le_of_ble_eq_true rfl, Nat.le_of_ble_eq_true rfl⟩) hB rfl hl.1 rfl (lv_room (Nat.le_of_ble_eq_true rfl)) dX9_readToken_21 ⟨Nat.zero_le _, Nat.zero_le _⟩ (fun H locs hB => ?_)
    refine lv_if_eq (tgt := 33) S.1 S.2.1 dX9_readToken_24 (by decide) (fun c_4 => ?_) (fun c_4 => ?_)
    · replace h := (if_pos c_4).symm.trans h
      refine lv_iload_n S.1 S.2.1 dX9_readToken_33 rfl (lv_at hl 0 rfl) ?_
      obtain ⟨r_5, e_5, h⟩ := bnd h
      refine cCallSI S hK cKSc hKS hA (kX9_isDigit e_5) (cwX9_87 S.2.2.2.2 (rm := rmX9_isDigit) rfl rfl ⟨Nat.le_of_ble_eq_true rfl, Nat.le_of_ble_eq_true rfl⟩) hB rfl hl.1 rfl (lv_room (Nat.le_of_ble_eq_true rfl)) dX9_readToken_34 ⟨Nat.zero_le _, Nat.zero_le _⟩ (fun H locs hB => ?_)
      refine lv_if_eq (tgt := 48) S.1 S.2.1 dX9_readToken_37 (by decide) (fun c_6 => ?_) (fun c_6 => ?_)
      · replace h := (if_pos c_6).symm.trans h
        refine lv_aload_n S.1 S.2.1 dX9_readToken_48 rfl (lv_at hl 1 rfl) ?_
        refine lv_iload_n S.1 S.2.1 dX9_readToken_49 rfl (lv_at hl 0 rfl) ?_
        obtain ⟨r_7, σ_7, e_7, h⟩ := b2s h
        refine cCallI S hK cKSc hKS hA (kX9_readSymbol e_7) (cwX9_93 S.2.2.2.2 (rm := rmX9_readSymbol) rfl rfl ⟨Nat.le_of_ble_eq_true rfl, Nat.le_of_ble_eq_true rfl⟩) hB 4 rfl rfl rfl hl.1 rfl (lv_room (Nat.le_of_ble_eq_true rfl)) dX9_readToken_50 ⟨Nat.zero_le _, Nat.zero_le _⟩ (fun H locs hB => ?_)
        cases h
        exact gRetI S.1 S.2.1 hr hlk hB dX9_readToken_53
      · replace h := (if_neg c_6).symm.trans h
        refine lv_aload_n S.1 S.2.1 dX9_readToken_40 rfl (lv_at hl 1 rfl) ?_
        refine lv_iload_n S.1 S.2.1 dX9_readToken_41 rfl (lv_at hl 2 rfl) ?_
        obtain ⟨r_8, σ_8, e_8, h⟩ := b2s h
        refine cCallI S hK cKSc hKS hA (kX9_readNumber e_8) (cwX9_90 S.2.2.2.2 (rm := rmX9_readNumber) rfl rfl ⟨Nat.le_of_ble_eq_true rfl, Nat.le_of_ble_eq_true rfl⟩) hB 4 rfl rfl rfl hl.1 rfl (lv_room (Nat.le_of_ble_eq_true rfl)) dX9_readToken_42 ⟨Nat.zero_le _, Nat.zero_le _⟩ (fun H locs hB => ?_)
        refine lv_goto (tgt := 53) S.1 S.2.1 dX9_readToken_45 (by decide) ?_
        cases h
        exact gRetI S.1 S.2.1 hr hlk hB dX9_readToken_53
    · replace h := (if_neg c_4).symm.trans h
      refine lv_aload_n S.1 S.2.1 dX9_readToken_27 rfl (lv_at hl 1 rfl) ?_
      refine lv_iload_n S.1 S.2.1 dX9_readToken_28 rfl (lv_at hl 2 rfl) ?_
      obtain ⟨r_9, σ_9, e_9, h⟩ := b2s h
      refine cCallI S hK cKSc hKS hA (kX9_readWord e_9) (cwX9_84 S.2.2.2.2 (rm := rmX9_readWord) rfl rfl ⟨Nat.le_of_ble_eq_true rfl, Nat.le_of_ble_eq_true rfl⟩) hB 4 rfl rfl rfl hl.1 rfl (lv_room (Nat.le_of_ble_eq_true rfl)) dX9_readToken_29 ⟨Nat.zero_le _, Nat.zero_le _⟩ (fun H locs hB => ?_)
      cases h
      exact gRetI S.1 S.2.1 hr hlk hB dX9_readToken_32
  · replace h := (if_pos c_2).symm.trans h
    refine lv_bipush (v := (53 : Int32)) S.1 S.2.1 dX9_readToken_17 (by decide) ?_
    cases h
    exact gRetI S.1 S.2.1 hr hlk hB dX9_readToken_19
def FX9_read_58 (L : Nat) (k9 : Int32 → Int32 → CS → Option (Unit × CS)) (x2 : Int32) (x3 : Int32) (σ1 : CS) : Option (Unit × CS) :=
    if x3 = (53 : Int32) then
      k9 (0 : Int32) (x2 + (1 : Int32)) (tA σ1 8 (putI 401 (σ1.2.2.1 8) x2 x3))
    else
      if x3 = (54 : Int32) then
        k9 (0 : Int32) (x2 + (1 : Int32)) (tA σ1 8 (putI 401 (σ1.2.2.1 8) x2 x3))
      else
        k9 (1 : Int32) (x2 + (1 : Int32)) (tA σ1 8 (putI 401 (σ1.2.2.1 8) x2 x3))
def FX9_read_9 (L : Nat)  : Nat → Int32 → Int32 → CS → Option (Unit × CS)
  | 0, _, _, _ => none
  | n+1, x1, x2, σ1 =>
    if x1 = 0 then
      some ((), σ1)
    else
      if (400 : Int32) < x2 then
        some ((), σ1)
      else
        b2 (FX9_skipBlanks L σ1) fun (_ : Unit) σ_3 =>
        b2 (FX9_readToken L x2 (tA σ_3 10 (putI 401 (σ_3.2.2.1 10) x2 (σ_3.1 405)))) fun r_4 σ_4 =>
        if x2 = (400 : Int32) then
          if r_4 = (53 : Int32) then
            FX9_read_58 L (FX9_read_9 L n) x2 r_4 σ_4
          else
            FX9_read_58 L (FX9_read_9 L n) x2 (54 : Int32) σ_4
        else
          FX9_read_58 L (FX9_read_9 L n) x2 r_4 σ_4
def FX9_read (L : Nat)  (σ : CS) : Option (Unit × CS) :=
  FX9_read_9 L L (1 : Int32) (0 : Int32) (tI σ 405 (0 : Int32))
abbrev rmX9_read : Room := { frames := 4, cells := 0, slots := 0, locals := 90 }
set_option maxRecDepth 100000 in
set_option maxHeartbeats 4000000 in
theorem kX9_read {l : Launch} {D : va_G} {cI cJ cQ : ClassId} {ad : Nat → Nat} {ra : Nat → Nat → Nat} {adK adV tK : Nat → Nat} {L : Nat}  {σ σ' : CS} (h : FX9_read L  σ = some ((), σ')) : gMet l yX9_read qX9_read rmX9_read 0 0 D vwCl [(cI, .int), (cJ, .long), (cQ, .array .long)] (cKS adK adV tK) [.ref (ad 4)] (CW cI cJ cQ ad ra σ) (CW cI cJ cQ ad ra σ') none := by
  refine gMet.of (cc := cX9_read) (maxL := 4) (ret := none) (by decide) rfl (Nat.le_of_ble_eq_true rfl) ?_
  intro p e s m args below meth c S hr hlk hnm hK hKS hA hB ls hl
  have hl : lv_has ls 4 [(0, .ref (ad 4))] := hl
  replace S : CallFix p m c cX9_read 4 s args (_ :: wsL_law) RX9 := S
  rw [FX9_read] at h
  have P58 : ∀ (k9 : Int32 → Int32 → CS → Option (Unit × CS)) (hk9 : ∀ (x1 : Int32) (x2 : Int32) (σ1 : CS) (H : Heap) (locs : List Loc) (ls : Array Slot), k9 x1 x2 σ1 = some ((), σ') → gB D vwCl (va_A (CW cI cJ cQ ad ra σ) s.heap.size) s.heap (CW cI cJ cQ ad ra σ1) [] H locs → lv_has ls 4 [(0, .ref (ad 4)), (1, .int x1), (2, .int x2)] → W p l e rmX9_read s m args below meth c H locs 0 0 (MQ below (gQ D vwCl (CW cI cJ cQ ad ra σ) (CW cI cJ cQ ad ra σ') none s.heap.size) args s 0 0 (va_A (CW cI cJ cQ ad ra σ) s.heap.size)) (F0 m 9 ls [])), ∀ (x2 : Int32) (x3 : Int32) (σ1 : CS) (H : Heap) (locs : List Loc) (ls : Array Slot), FX9_read_58 L k9 x2 x3 σ1 = some ((), σ') → gB D vwCl (va_A (CW cI cJ cQ ad ra σ) s.heap.size) s.heap (CW cI cJ cQ ad ra σ1) [] H locs → lv_has ls 4 [(0, .ref (ad 4)), (2, .int x2), (3, .int x3)] → W p l e rmX9_read s m args below meth c H locs 0 0 (MQ below (gQ D vwCl (CW cI cJ cQ ad ra σ) (CW cI cJ cQ ad ra σ') none s.heap.size) args s 0 0 (va_A (CW cI cJ cQ ad ra σ) s.heap.size)) (F0 m 58 ls []) := by
    intro k9 hk9 x2 x3 σ1 H locs ls h hB hl
    rw [FX9_read_58] at h
    refine lv_aload_n S.1 S.2.1 dX9_read_58 rfl (lv_at hl 0 rfl) ?_
    refine tg_4_2 S hK hB (S.2.2.2.2 _ (List.mem_cons_of_mem _ wf_X9_28)) dX9_read_59 ?_
    refine lv_iload_n S.1 S.2.1 dX9_read_62 rfl (lv_at hl 1 rfl) ?_
    refine lv_iload_n S.1 S.2.1 dX9_read_63 rfl (lv_at hl 2 rfl) ?_
    refine lp_7 S hK cKSc hKS hA hB (cwX9_66 S.2.2.2.2 (rm := { frames := 0, cells := 0, slots := 0, locals := 0 }) rfl rfl ⟨Nat.le_of_ble_eq_true rfl, Nat.le_of_ble_eq_true rfl⟩) hl.1 (lv_room (Nat.le_of_ble_eq_true rfl)) dX9_read_64 ⟨Nat.zero_le _, Nat.zero_le _⟩ (fun H locs hB => ?_)
    refine lv_iload_n S.1 S.2.1 dX9_read_67 rfl (lv_at hl 2 rfl) ?_
    refine lv_bipush (v := (53 : Int32)) S.1 S.2.1 dX9_read_68 (by decide) ?_
    refine lv_icmp_eq (tgt := 83) S.1 S.2.1 dX9_read_70 (by decide) (fun c_6 => ?_) (fun c_6 => ?_)
    · replace h := (if_pos c_6).symm.trans h
      refine lv_iconst (v := (0 : Int32)) S.1 S.2.1 dX9_read_83 (by decide) ?_
      refine lv_istore_n (lv' := [(1, .int (0 : Int32)), (0, .ref (ad 4)), (2, .int x2), (3, .int x3)]) S.1 S.2.1 dX9_read_84 rfl hl (by decide) rfl (fun ls hl => ?_)
      refine lv_iinc (v := (x2 + (1 : Int32))) (lv' := [(2, .int (x2 + (1 : Int32))), (1, .int (0 : Int32)), (0, .ref (ad 4)), (3, .int x3)]) S.1 S.2.1 dX9_read_85 hl (k := 2) rfl rfl (by decide) rfl (fun ls hl => ?_)
      refine lv_goto (tgt := 9) S.1 S.2.1 dX9_read_88 (by decide) ?_
      exact hk9 _ _ _ _ _ _ h hB (lv_sub hl [2, 1, 0] rfl)
    · replace h := (if_neg c_6).symm.trans h
      refine lv_iload_n S.1 S.2.1 dX9_read_73 rfl (lv_at hl 2 rfl) ?_
      refine lv_bipush (v := (54 : Int32)) S.1 S.2.1 dX9_read_74 (by decide) ?_
      refine lv_icmp_eq (tgt := 83) S.1 S.2.1 dX9_read_76 (by decide) (fun c_7 => ?_) (fun c_7 => ?_)
      · replace h := (if_pos c_7).symm.trans h
        refine lv_iconst (v := (0 : Int32)) S.1 S.2.1 dX9_read_83 (by decide) ?_
        refine lv_istore_n (lv' := [(1, .int (0 : Int32)), (0, .ref (ad 4)), (2, .int x2), (3, .int x3)]) S.1 S.2.1 dX9_read_84 rfl hl (by decide) rfl (fun ls hl => ?_)
        refine lv_iinc (v := (x2 + (1 : Int32))) (lv' := [(2, .int (x2 + (1 : Int32))), (1, .int (0 : Int32)), (0, .ref (ad 4)), (3, .int x3)]) S.1 S.2.1 dX9_read_85 hl (k := 2) rfl rfl (by decide) rfl (fun ls hl => ?_)
        refine lv_goto (tgt := 9) S.1 S.2.1 dX9_read_88 (by decide) ?_
        exact hk9 _ _ _ _ _ _ h hB (lv_sub hl [2, 1, 0] rfl)
      · replace h := (if_neg c_7).symm.trans h
        refine lv_iconst (v := (1 : Int32)) S.1 S.2.1 dX9_read_79 (by decide) ?_
        refine lv_goto (tgt := 84) S.1 S.2.1 dX9_read_80 (by decide) ?_
        refine lv_istore_n (lv' := [(1, .int (1 : Int32)), (0, .ref (ad 4)), (2, .int x2), (3, .int x3)]) S.1 S.2.1 dX9_read_84 rfl hl (by decide) rfl (fun ls hl => ?_)
        refine lv_iinc (v := (x2 + (1 : Int32))) (lv' := [(2, .int (x2 + (1 : Int32))), (1, .int (1 : Int32)), (0, .ref (ad 4)), (3, .int x3)]) S.1 S.2.1 dX9_read_85 hl (k := 2) rfl rfl (by decide) rfl (fun ls hl => ?_)
        refine lv_goto (tgt := 9) S.1 S.2.1 dX9_read_88 (by decide) ?_
        exact hk9 _ _ _ _ _ _ h hB (lv_sub hl [2, 1, 0] rfl)
  have P9 : ∀  (n : Nat), ∀ (x1 : Int32) (x2 : Int32) (σ1 : CS) (H : Heap) (locs : List Loc) (ls : Array Slot), FX9_read_9 L n x1 x2 σ1 = some ((), σ') → gB D vwCl (va_A (CW cI cJ cQ ad ra σ) s.heap.size) s.heap (CW cI cJ cQ ad ra σ1) [] H locs → lv_has ls 4 [(0, .ref (ad 4)), (1, .int x1), (2, .int x2)] → W p l e rmX9_read s m args below meth c H locs 0 0 (MQ below (gQ D vwCl (CW cI cJ cQ ad ra σ) (CW cI cJ cQ ad ra σ') none s.heap.size) args s 0 0 (va_A (CW cI cJ cQ ad ra σ) s.heap.size)) (F0 m 9 ls []) := by
    intro n
    induction n with
    | zero => intro x1 x2 σ1 H locs ls h; simp only [FX9_read_9] at h; cases h
    | succ n ih =>
      intro x1 x2 σ1 H locs ls h hB hl
      rw [FX9_read_9] at h
      refine lv_iload_n S.1 S.2.1 dX9_read_9 rfl (lv_at hl 1 rfl) ?_
      refine lv_if_eq (tgt := 91) S.1 S.2.1 dX9_read_10 (by decide) (fun c_1 => ?_) (fun c_1 => ?_)
      · replace h := (if_pos c_1).symm.trans h
        cases h
        exact gRetV S.1 S.2.1 hr hlk hB dX9_read_91
      · replace h := (if_neg c_1).symm.trans h
        refine lv_iload_n S.1 S.2.1 dX9_read_13 rfl (lv_at hl 2 rfl) ?_
        refine lv_sipush (v := (400 : Int32)) S.1 S.2.1 dX9_read_14 (by decide) ?_
        refine lv_icmp_gt (tgt := 91) S.1 S.2.1 dX9_read_17 (by decide) (fun c_2 => ?_) (fun c_2 => ?_)
        · replace h := (if_pos c_2).symm.trans h
          cases h
          exact gRetV S.1 S.2.1 hr hlk hB dX9_read_91
        · replace h := (if_neg c_2).symm.trans h
          refine lv_aload_n S.1 S.2.1 dX9_read_20 rfl (lv_at hl 0 rfl) ?_
          obtain ⟨_, σ_3, e_3, h⟩ := b2s h
          refine cCallV S hK cKSc hKS hA (kX9_skipBlanks e_3) (cwX9_63 S.2.2.2.2 (rm := rmX9_skipBlanks) rfl rfl ⟨Nat.le_of_ble_eq_true rfl, Nat.le_of_ble_eq_true rfl⟩) hB 4 rfl rfl rfl hl.1 rfl (lv_room (Nat.le_of_ble_eq_true rfl)) dX9_read_21 ⟨Nat.zero_le _, Nat.zero_le _⟩ (fun H locs hB => ?_)
          refine lv_aload_n S.1 S.2.1 dX9_read_24 rfl (lv_at hl 0 rfl) ?_
          refine tg_4_3 S hK hB (S.2.2.2.2 _ (List.mem_cons_of_mem _ wf_X9_32)) dX9_read_25 ?_
          refine lv_iload_n S.1 S.2.1 dX9_read_28 rfl (lv_at hl 2 rfl) ?_
          refine lv_aload_n S.1 S.2.1 dX9_read_29 rfl (lv_at hl 0 rfl) ?_
          refine tg_4_5 S hK hB (S.2.2.2.2 _ (List.mem_cons_of_mem _ wf_X9_59)) rfl dX9_read_30 ?_
          refine lp_9 S hK cKSc hKS hA hB (cwX9_66 S.2.2.2.2 (rm := { frames := 0, cells := 0, slots := 0, locals := 0 }) rfl rfl ⟨Nat.le_of_ble_eq_true rfl, Nat.le_of_ble_eq_true rfl⟩) hl.1 (lv_room (Nat.le_of_ble_eq_true rfl)) dX9_read_33 ⟨Nat.zero_le _, Nat.zero_le _⟩ (fun H locs hB => ?_)
          refine lv_aload_n S.1 S.2.1 dX9_read_36 rfl (lv_at hl 0 rfl) ?_
          refine lv_iload_n S.1 S.2.1 dX9_read_37 rfl (lv_at hl 2 rfl) ?_
          obtain ⟨r_4, σ_4, e_4, h⟩ := b2s h
          refine cCallI S hK cKSc hKS hA (kX9_readToken e_4) (cwX9_69 S.2.2.2.2 (rm := rmX9_readToken) rfl rfl ⟨Nat.le_of_ble_eq_true rfl, Nat.le_of_ble_eq_true rfl⟩) hB 4 rfl rfl rfl hl.1 rfl (lv_room (Nat.le_of_ble_eq_true rfl)) dX9_read_38 ⟨Nat.zero_le _, Nat.zero_le _⟩ (fun H locs hB => ?_)
          refine lv_istore_n (lv' := [(3, .int r_4), (0, .ref (ad 4)), (1, .int x1), (2, .int x2)]) S.1 S.2.1 dX9_read_41 rfl hl (by decide) rfl (fun ls hl => ?_)
          refine lv_iload_n S.1 S.2.1 dX9_read_42 rfl (lv_at hl 3 rfl) ?_
          refine lv_sipush (v := (400 : Int32)) S.1 S.2.1 dX9_read_43 (by decide) ?_
          refine lv_icmp_ne (tgt := 58) S.1 S.2.1 dX9_read_46 (by decide) (fun c_5 => ?_) (fun c_5 => ?_)
          · replace h := (if_neg c_5).symm.trans h
            exact P58 (FX9_read_9 L n) ih _ _ _ _ _ _ h hB (lv_sub hl [1, 3, 0] rfl)
          · replace h := (if_pos c_5).symm.trans h
            refine lv_iload_n S.1 S.2.1 dX9_read_49 rfl (lv_at hl 0 rfl) ?_
            refine lv_bipush (v := (53 : Int32)) S.1 S.2.1 dX9_read_50 (by decide) ?_
            refine lv_icmp_eq (tgt := 58) S.1 S.2.1 dX9_read_52 (by decide) (fun c_8 => ?_) (fun c_8 => ?_)
            · replace h := (if_pos c_8).symm.trans h
              exact P58 (FX9_read_9 L n) ih _ _ _ _ _ _ h hB (lv_sub hl [1, 3, 0] rfl)
            · replace h := (if_neg c_8).symm.trans h
              refine lv_bipush (v := (54 : Int32)) S.1 S.2.1 dX9_read_55 (by decide) ?_
              refine lv_istore_n (lv' := [(3, .int (54 : Int32)), (0, .ref (ad 4)), (1, .int x1), (2, .int x2)]) S.1 S.2.1 dX9_read_57 rfl hl (by decide) rfl (fun ls hl => ?_)
              exact P58 (FX9_read_9 L n) ih _ _ _ _ _ _ h hB (lv_sub hl [1, 3, 0] rfl)
  refine lv_aload_n S.1 S.2.1 dX9_read_0 rfl (lv_at hl 0 rfl) ?_
  refine lv_iconst (v := (0 : Int32)) S.1 S.2.1 dX9_read_1 (by decide) ?_
  refine tp_4_5 S hK hB (S.2.2.2.2 _ (List.mem_cons_of_mem _ wf_X9_59)) dX9_read_2 (fun H locs hB => ?_)
  refine lv_iconst (v := (1 : Int32)) S.1 S.2.1 dX9_read_5 (by decide) ?_
  refine lv_istore_n (lv' := [(1, .int (1 : Int32)), (0, .ref (ad 4))]) S.1 S.2.1 dX9_read_6 rfl hl (by decide) rfl (fun ls hl => ?_)
  refine lv_iconst (v := (0 : Int32)) S.1 S.2.1 dX9_read_7 (by decide) ?_
  refine lv_istore_n (lv' := [(2, .int (0 : Int32)), (1, .int (1 : Int32)), (0, .ref (ad 4))]) S.1 S.2.1 dX9_read_8 rfl hl (by decide) rfl (fun ls hl => ?_)
  exact P9  L _ _ _ _ _ _ h hB (lv_sub hl [2, 1, 0] rfl)
