def FX10_howMany (p0 : Int32) (σ : CS) : Option (Int32 × CS) :=
  if p0 = 4 then
    some (σ.1 4402, σ)
  else if p0 = 5 then
    some (σ.1 4902, σ)
  else if p0 = 6 then
    some (σ.1 101, σ)
  else 
    some ((getI 4 (σ.2.2.1 36) p0), σ)
abbrev rmX10_howMany : Room := { frames := 1, cells := 0, slots := 0, locals := 21 }
set_option maxRecDepth 100000 in
set_option maxHeartbeats 4000000 in
theorem kX10_howMany {l : Launch} {D : va_G} {cI cJ cQ : ClassId} {ad : Nat → Nat} {ra : Nat → Nat → Nat} {adK adV tK : Nat → Nat} {p0 : Int32} {σ σ' : CS} {r : Int32} (h : FX10_howMany p0 σ = some (r, σ')) : gMet l yX10_howMany qX10_howMany rmX10_howMany 0 0 D vwCl [(cI, .int), (cJ, .long), (cQ, .array .long)] (cKS adK adV tK) [.ref (ad 0), .int p0] (CW cI cJ cQ ad ra σ) (CW cI cJ cQ ad ra σ') (some (.int r)) := by
  refine gMet.of (cc := cX10_howMany) (maxL := 2) (ret := (some .int)) (by decide) rfl (Nat.le_of_ble_eq_true rfl) ?_
  intro p e s m args below meth c S hr hlk hnm hK hKS hA hB ls hl
  have hl : lv_has ls 2 [(0, .ref (ad 0)), (1, .int p0)] := hl
  replace S : CallFix p m c cX10_howMany 2 s args (_ :: wsL_law) RX10 := S
  rw [FX10_howMany] at h
  refine lv_iload_n S.1 S.2.1 dX10_howMany_0 rfl (lv_at hl 1 rfl) ?_
  by_cases c_1 : p0 = 4
  · replace h := (if_pos c_1).symm.trans h
    refine lv_tableIn (off := 27) (tgt := 28) S.1 S.2.1 dX10_howMany_1 (by rw [c_1]; decide) (by rw [c_1]; decide) (by rw [c_1]; rfl) (by decide) ?_
    refine lv_aload_n S.1 S.2.1 dX10_howMany_28 rfl (lv_at hl 0 rfl) ?_
    refine tg_0_5 S hK hB (S.2.2.2.2 _ (List.mem_cons_of_mem _ wf_X10_51)) dX10_howMany_29 ?_
    refine tgN_44_2 S hK hB (nF hKS 29 rfl) rfl dX10_howMany_32 ?_
    cases h
    exact gRetI S.1 S.2.1 hr hlk hB dX10_howMany_35
  · replace h := (if_neg c_1).symm.trans h
    by_cases c_2 : p0 = 5
    · replace h := (if_pos c_2).symm.trans h
      refine lv_tableIn (off := 35) (tgt := 36) S.1 S.2.1 dX10_howMany_1 (by rw [c_2]; decide) (by rw [c_2]; decide) (by rw [c_2]; rfl) (by decide) ?_
      refine lv_aload_n S.1 S.2.1 dX10_howMany_36 rfl (lv_at hl 0 rfl) ?_
      refine tg_0_6 S hK hB (S.2.2.2.2 _ (List.mem_cons_of_mem _ wf_X10_55)) dX10_howMany_37 ?_
      refine tgN_49_2 S hK hB (nF hKS 29 rfl) rfl dX10_howMany_40 ?_
      cases h
      exact gRetI S.1 S.2.1 hr hlk hB dX10_howMany_43
    · replace h := (if_neg c_2).symm.trans h
      by_cases c_3 : p0 = 6
      · replace h := (if_pos c_3).symm.trans h
        refine lv_tableIn (off := 43) (tgt := 44) S.1 S.2.1 dX10_howMany_1 (by rw [c_3]; decide) (by rw [c_3]; decide) (by rw [c_3]; rfl) (by decide) ?_
        refine lv_aload_n S.1 S.2.1 dX10_howMany_44 rfl (lv_at hl 0 rfl) ?_
        refine tg_0_0 S hK hB (S.2.2.2.2 _ (List.mem_cons_of_mem _ wf_X10_10)) dX10_howMany_45 ?_
        refine tgN_1_1 S hK hB (nF hKS 0 rfl) rfl dX10_howMany_48 ?_
        cases h
        exact gRetI S.1 S.2.1 hr hlk hB dX10_howMany_51
      · replace h := (if_neg c_3).symm.trans h
        refine swT (tgt := 52) (cs := [4, 5, 6]) S.1 S.2.1 dX10_howMany_1 (List.forall_mem_cons.mpr ⟨lv_neT c_1 (by decide), List.forall_mem_cons.mpr ⟨lv_neT c_2 (by decide), List.forall_mem_cons.mpr ⟨lv_neT c_3 (by decide), List.forall_mem_nil _⟩⟩⟩) (by decide) (by decide) (by decide) ?_
        refine lv_aload_n S.1 S.2.1 dX10_howMany_52 rfl (lv_at hl 0 rfl) ?_
        refine tg_0_3 S hK hB (S.2.2.2.2 _ (List.mem_cons_of_mem _ wf_X10_35)) dX10_howMany_53 ?_
        refine tgN_28_3 S hK hB (nF hKS 16 rfl) dX10_howMany_56 ?_
        refine lv_iload_n S.1 S.2.1 dX10_howMany_59 rfl (lv_at hl 1 rfl) ?_
        refine lg_35 (r := (getI 4 (σ.2.2.1 36) p0)) S hK cKSc hKS hA hB rfl (cwX10_205 S.2.2.2.2 (rm := { frames := 0, cells := 0, slots := 0, locals := 0 }) rfl rfl ⟨Nat.le_of_ble_eq_true rfl, Nat.le_of_ble_eq_true rfl⟩) hl.1 (lv_room (Nat.le_of_ble_eq_true rfl)) dX10_howMany_60 ⟨Nat.zero_le _, Nat.zero_le _⟩ (fun H locs hB => ?_)
        cases h
        exact gRetI S.1 S.2.1 hr hlk hB dX10_howMany_63
def FX10_isItem (p0 : Int32) (p1 : Int32) (σ : CS) : Option (Int32 × CS) :=
  if p1 < 0 then
    some ((0 : Int32), σ)
  else
    if (getI 4 (σ.2.2.1 36) p0) ≤ p1 then
      some ((0 : Int32), σ)
    else
      some ((1 : Int32), σ)
abbrev rmX10_isItem : Room := { frames := 1, cells := 0, slots := 0, locals := 21 }
set_option maxRecDepth 100000 in
set_option maxHeartbeats 4000000 in
theorem kX10_isItem {l : Launch} {D : va_G} {cI cJ cQ : ClassId} {ad : Nat → Nat} {ra : Nat → Nat → Nat} {adK adV tK : Nat → Nat} {p0 : Int32} {p1 : Int32} {σ σ' : CS} {r : Int32} (h : FX10_isItem p0 p1 σ = some (r, σ')) : gMet l yX10_isItem qX10_isItem rmX10_isItem 0 0 D vwCl [(cI, .int), (cJ, .long), (cQ, .array .long)] (cKS adK adV tK) [.ref (ad 0), .int p0, .int p1] (CW cI cJ cQ ad ra σ) (CW cI cJ cQ ad ra σ') (some (.int r)) := by
  refine gMet.of (cc := cX10_isItem) (maxL := 3) (ret := (some .boolean)) (by decide) rfl (Nat.le_of_ble_eq_true rfl) ?_
  intro p e s m args below meth c S hr hlk hnm hK hKS hA hB ls hl
  have hl : lv_has ls 3 [(0, .ref (ad 0)), (1, .int p0), (2, .int p1)] := hl
  replace S : CallFix p m c cX10_isItem 3 s args (_ :: wsL_law) RX10 := S
  rw [FX10_isItem] at h
  refine lv_iload_n S.1 S.2.1 dX10_isItem_0 rfl (lv_at hl 2 rfl) ?_
  refine lv_if_lt (tgt := 23) S.1 S.2.1 dX10_isItem_1 (by decide) (fun c_1 => ?_) (fun c_1 => ?_)
  · replace h := (if_pos c_1).symm.trans h
    refine lv_iconst (v := (0 : Int32)) S.1 S.2.1 dX10_isItem_23 (by decide) ?_
    cases h
    exact gRetZ S.1 S.2.1 hr hlk hB rfl dX10_isItem_24
  · replace h := (if_neg c_1).symm.trans h
    refine lv_iload_n S.1 S.2.1 dX10_isItem_4 rfl (lv_at hl 2 rfl) ?_
    refine lv_aload_n S.1 S.2.1 dX10_isItem_5 rfl (lv_at hl 0 rfl) ?_
    refine tg_0_3 S hK hB (S.2.2.2.2 _ (List.mem_cons_of_mem _ wf_X10_35)) dX10_isItem_6 ?_
    refine tgN_28_3 S hK hB (nF hKS 16 rfl) dX10_isItem_9 ?_
    refine lv_iload_n S.1 S.2.1 dX10_isItem_12 rfl (lv_at hl 1 rfl) ?_
    refine lg_35 (r := (getI 4 (σ.2.2.1 36) p0)) S hK cKSc hKS hA hB rfl (cwX10_205 S.2.2.2.2 (rm := { frames := 0, cells := 0, slots := 0, locals := 0 }) rfl rfl ⟨Nat.le_of_ble_eq_true rfl, Nat.le_of_ble_eq_true rfl⟩) hl.1 (lv_room (Nat.le_of_ble_eq_true rfl)) dX10_isItem_13 ⟨Nat.zero_le _, Nat.zero_le _⟩ (fun H locs hB => ?_)
    refine lv_icmp_ge (tgt := 23) S.1 S.2.1 dX10_isItem_16 (by decide) (fun c_2 => ?_) (fun c_2 => ?_)
    · replace h := (if_pos c_2).symm.trans h
      refine lv_iconst (v := (0 : Int32)) S.1 S.2.1 dX10_isItem_23 (by decide) ?_
      cases h
      exact gRetZ S.1 S.2.1 hr hlk hB rfl dX10_isItem_24
    · replace h := (if_neg c_2).symm.trans h
      refine lv_iconst (v := (1 : Int32)) S.1 S.2.1 dX10_isItem_19 (by decide) ?_
      refine lv_goto (tgt := 24) S.1 S.2.1 dX10_isItem_20 (by decide) ?_
      cases h
      exact gRetZ S.1 S.2.1 hr hlk hB rfl dX10_isItem_24
def FX10_isStep (p0 : Int32) (σ : CS) : Option (Int32 × CS) :=
  if p0 < 0 then
    some ((0 : Int32), σ)
  else
    if (σ.1 4402) ≤ p0 then
      some ((0 : Int32), σ)
    else
      some ((1 : Int32), σ)
abbrev rmX10_isStep : Room := { frames := 0, cells := 0, slots := 0, locals := 0 }
set_option maxRecDepth 100000 in
set_option maxHeartbeats 4000000 in
theorem kX10_isStep {l : Launch} {D : va_G} {cI cJ cQ : ClassId} {ad : Nat → Nat} {ra : Nat → Nat → Nat} {adK adV tK : Nat → Nat} {p0 : Int32} {σ σ' : CS} {r : Int32} (h : FX10_isStep p0 σ = some (r, σ')) : gMet l yX10_isStep qX10_isStep rmX10_isStep 0 0 D vwCl [(cI, .int), (cJ, .long), (cQ, .array .long)] (cKS adK adV tK) [.ref (ad 0), .int p0] (CW cI cJ cQ ad ra σ) (CW cI cJ cQ ad ra σ') (some (.int r)) := by
  refine gMet.of (cc := cX10_isStep) (maxL := 2) (ret := (some .boolean)) (by decide) rfl (Nat.le_of_ble_eq_true rfl) ?_
  intro p e s m args below meth c S hr hlk hnm hK hKS hA hB ls hl
  have hl : lv_has ls 2 [(0, .ref (ad 0)), (1, .int p0)] := hl
  replace S : CallFix p m c cX10_isStep 2 s args (_ :: wsL_law) RX10 := S
  rw [FX10_isStep] at h
  refine lv_iload_n S.1 S.2.1 dX10_isStep_0 rfl (lv_at hl 1 rfl) ?_
  refine lv_if_lt (tgt := 19) S.1 S.2.1 dX10_isStep_1 (by decide) (fun c_1 => ?_) (fun c_1 => ?_)
  · replace h := (if_pos c_1).symm.trans h
    refine lv_iconst (v := (0 : Int32)) S.1 S.2.1 dX10_isStep_19 (by decide) ?_
    cases h
    exact gRetZ S.1 S.2.1 hr hlk hB rfl dX10_isStep_20
  · replace h := (if_neg c_1).symm.trans h
    refine lv_iload_n S.1 S.2.1 dX10_isStep_4 rfl (lv_at hl 1 rfl) ?_
    refine lv_aload_n S.1 S.2.1 dX10_isStep_5 rfl (lv_at hl 0 rfl) ?_
    refine tg_0_5 S hK hB (S.2.2.2.2 _ (List.mem_cons_of_mem _ wf_X10_51)) dX10_isStep_6 ?_
    refine tgN_44_2 S hK hB (nF hKS 29 rfl) rfl dX10_isStep_9 ?_
    refine lv_icmp_ge (tgt := 19) S.1 S.2.1 dX10_isStep_12 (by decide) (fun c_2 => ?_) (fun c_2 => ?_)
    · replace h := (if_pos c_2).symm.trans h
      refine lv_iconst (v := (0 : Int32)) S.1 S.2.1 dX10_isStep_19 (by decide) ?_
      cases h
      exact gRetZ S.1 S.2.1 hr hlk hB rfl dX10_isStep_20
    · replace h := (if_neg c_2).symm.trans h
      refine lv_iconst (v := (1 : Int32)) S.1 S.2.1 dX10_isStep_15 (by decide) ?_
      refine lv_goto (tgt := 20) S.1 S.2.1 dX10_isStep_16 (by decide) ?_
      cases h
      exact gRetZ S.1 S.2.1 hr hlk hB rfl dX10_isStep_20
def FX10_reckoned (p0 : Int32) (p1 : Int32) (p2 : Int32) (σ : CS) : Option (Int64 × CS) :=
  b2 (FX5_rootOf p0 p1 σ) fun r_1 σ_1 =>
  some ((getT 1200 (σ_1.2.2.2.2 2) r_1 p2), σ_1)
abbrev rmX10_reckoned : Room := { frames := 2, cells := 0, slots := 0, locals := 43 }
set_option maxRecDepth 100000 in
set_option maxHeartbeats 4000000 in
theorem kX10_reckoned {l : Launch} {D : va_G} {cI cJ cQ : ClassId} {ad : Nat → Nat} {ra : Nat → Nat → Nat} {adK adV tK : Nat → Nat} {p0 : Int32} {p1 : Int32} {p2 : Int32} {σ σ' : CS} {r : Int64} (h : FX10_reckoned p0 p1 p2 σ = some (r, σ')) : gMet l yX10_reckoned qX10_reckoned rmX10_reckoned 0 0 D vwCl [(cI, .int), (cJ, .long), (cQ, .array .long)] (cKS adK adV tK) [.ref (ad 0), .int p0, .int p1, .int p2] (CW cI cJ cQ ad ra σ) (CW cI cJ cQ ad ra σ') (some (.long r)) := by
  refine gMet.of (cc := cX10_reckoned) (maxL := 4) (ret := (some .long)) (by decide) rfl (Nat.le_of_ble_eq_true rfl) ?_
  intro p e s m args below meth c S hr hlk hnm hK hKS hA hB ls hl
  have hl : lv_has ls 4 [(0, .ref (ad 0)), (1, .int p0), (2, .int p1), (3, .int p2)] := hl
  replace S : CallFix p m c cX10_reckoned 4 s args (_ :: wsL_law) RX10 := S
  rw [FX10_reckoned] at h
  refine lv_aload_n S.1 S.2.1 dX10_reckoned_0 rfl (lv_at hl 0 rfl) ?_
  refine tg_0_7 S hK hB (S.2.2.2.2 _ (List.mem_cons_of_mem _ wf_X10_63)) dX10_reckoned_1 ?_
  refine tgN_54_2 S hK hB (nF hKS 31 rfl) dX10_reckoned_4 ?_
  refine lv_aload_n S.1 S.2.1 dX10_reckoned_7 rfl (lv_at hl 0 rfl) ?_
  refine tg_0_3 S hK hB (S.2.2.2.2 _ (List.mem_cons_of_mem _ wf_X10_35)) dX10_reckoned_8 ?_
  refine lv_iload_n S.1 S.2.1 dX10_reckoned_11 rfl (lv_at hl 1 rfl) ?_
  refine lv_iload_n S.1 S.2.1 dX10_reckoned_12 rfl (lv_at hl 2 rfl) ?_
  obtain ⟨r_1, σ_1, e_1, h⟩ := b2s h
  refine cCallI S hK cKSc hKS hA (kX5_rootOf e_1) (cwX10_236 S.2.2.2.2 (rm := rmX5_rootOf) rfl rfl ⟨Nat.le_of_ble_eq_true rfl, Nat.le_of_ble_eq_true rfl⟩) hB 28 rfl rfl rfl hl.1 rfl (lv_room (Nat.le_of_ble_eq_true rfl)) dX10_reckoned_13 ⟨Nat.zero_le _, Nat.zero_le _⟩ (fun H locs hB => ?_)
  refine lv_iload_n S.1 S.2.1 dX10_reckoned_16 rfl (lv_at hl 3 rfl) ?_
  refine lg_55 (r := (getT 1200 (σ_1.2.2.2.2 2) r_1 p2)) S hK cKSc hKS hA hB rfl (cwX10_196 S.2.2.2.2 (rm := { frames := 0, cells := 0, slots := 0, locals := 0 }) rfl rfl ⟨Nat.le_of_ble_eq_true rfl, Nat.le_of_ble_eq_true rfl⟩) hl.1 (lv_room (Nat.le_of_ble_eq_true rfl)) dX10_reckoned_17 ⟨Nat.zero_le _, Nat.zero_le _⟩ (fun H locs hB => ?_)
  cases h
  exact gRetL S.1 S.2.1 hr hlk hB dX10_reckoned_20
def FX10_begin_22 (L : Nat)  : Nat → Int32 → CS → Option (Unit × CS)
  | 0, _, _ => none
  | n+1, x1, σ1 =>
    if (8 : Int32) ≤ x1 then
      some ((), σ1)
    else
      (FX10_begin_22 L n) (x1 + (1 : Int32)) (tB σ1 58 (putL 8 (σ1.2.2.2.1 58) x1 (getL 8 (σ1.2.2.2.1 40) x1)))
def FX10_begin (L : Nat)  (σ : CS) : Option (Unit × CS) :=
  b2 (FX10_howMany (0 : Int32) (tI σ 4402 (0 : Int32))) fun r_1 σ_1 =>
  FX10_begin_22 L L (0 : Int32) (tI σ_1 4403 r_1)
abbrev rmX10_begin : Room := { frames := 2, cells := 0, slots := 0, locals := 42 }
set_option maxRecDepth 100000 in
set_option maxHeartbeats 4000000 in
theorem kX10_begin {l : Launch} {D : va_G} {cI cJ cQ : ClassId} {ad : Nat → Nat} {ra : Nat → Nat → Nat} {adK adV tK : Nat → Nat} {L : Nat}  {σ σ' : CS} (h : FX10_begin L  σ = some ((), σ')) : gMet l yX10_begin qX10_begin rmX10_begin 0 0 D vwCl [(cI, .int), (cJ, .long), (cQ, .array .long)] (cKS adK adV tK) [.ref (ad 0)] (CW cI cJ cQ ad ra σ) (CW cI cJ cQ ad ra σ') none := by
  refine gMet.of (cc := cX10_begin) (maxL := 2) (ret := none) (by decide) rfl (Nat.le_of_ble_eq_true rfl) ?_
  intro p e s m args below meth c S hr hlk hnm hK hKS hA hB ls hl
  have hl : lv_has ls 2 [(0, .ref (ad 0))] := hl
  replace S : CallFix p m c cX10_begin 2 s args (_ :: wsL_law) RX10 := S
  rw [FX10_begin] at h
  have P22 : ∀  (n : Nat), ∀ (x1 : Int32) (σ1 : CS) (H : Heap) (locs : List Loc) (ls : Array Slot), FX10_begin_22 L n x1 σ1 = some ((), σ') → gB D vwCl (va_A (CW cI cJ cQ ad ra σ) s.heap.size) s.heap (CW cI cJ cQ ad ra σ1) [] H locs → lv_has ls 2 [(0, .ref (ad 0)), (1, .int x1)] → W p l e rmX10_begin s m args below meth c H locs 0 0 (MQ below (gQ D vwCl (CW cI cJ cQ ad ra σ) (CW cI cJ cQ ad ra σ') none s.heap.size) args s 0 0 (va_A (CW cI cJ cQ ad ra σ) s.heap.size)) (F0 m 22 ls []) := by
    intro n
    induction n with
    | zero => intro x1 σ1 H locs ls h; simp only [FX10_begin_22] at h; cases h
    | succ n ih =>
      intro x1 σ1 H locs ls h hB hl
      rw [FX10_begin_22] at h
      refine lv_iload_n S.1 S.2.1 dX10_begin_22 rfl (lv_at hl 1 rfl) ?_
      refine lv_bipush (v := (8 : Int32)) S.1 S.2.1 dX10_begin_23 (by decide) ?_
      refine lv_icmp_ge (tgt := 53) S.1 S.2.1 dX10_begin_25 (by decide) (fun c_2 => ?_) (fun c_2 => ?_)
      · replace h := (if_pos c_2).symm.trans h
        cases h
        exact gRetV S.1 S.2.1 hr hlk hB dX10_begin_53
      · replace h := (if_neg c_2).symm.trans h
        refine lv_aload_n S.1 S.2.1 dX10_begin_28 rfl (lv_at hl 0 rfl) ?_
        refine tg_0_8 S hK hB (S.2.2.2.2 _ (List.mem_cons_of_mem _ wf_X10_72)) dX10_begin_29 ?_
        refine lv_iload_n S.1 S.2.1 dX10_begin_32 rfl (lv_at hl 1 rfl) ?_
        refine lv_aload_n S.1 S.2.1 dX10_begin_33 rfl (lv_at hl 0 rfl) ?_
        refine tg_0_3 S hK hB (S.2.2.2.2 _ (List.mem_cons_of_mem _ wf_X10_35)) dX10_begin_34 ?_
        refine tgN_28_5 S hK hB (nF hKS 18 rfl) dX10_begin_37 ?_
        refine lv_iload_n S.1 S.2.1 dX10_begin_40 rfl (lv_at hl 1 rfl) ?_
        refine lg_39 (r := (getL 8 (σ1.2.2.2.1 40) x1)) S hK cKSc hKS hA hB rfl (cwX10_150 S.2.2.2.2 (rm := { frames := 0, cells := 0, slots := 0, locals := 0 }) rfl rfl ⟨Nat.le_of_ble_eq_true rfl, Nat.le_of_ble_eq_true rfl⟩) hl.1 (lv_room (Nat.le_of_ble_eq_true rfl)) dX10_begin_41 ⟨Nat.zero_le _, Nat.zero_le _⟩ (fun H locs hB => ?_)
        refine lp_57 S hK cKSc hKS hA hB (cwX10_154 S.2.2.2.2 (rm := { frames := 0, cells := 0, slots := 0, locals := 0 }) rfl rfl ⟨Nat.le_of_ble_eq_true rfl, Nat.le_of_ble_eq_true rfl⟩) hl.1 (lv_room (Nat.le_of_ble_eq_true rfl)) dX10_begin_44 ⟨Nat.zero_le _, Nat.zero_le _⟩ (fun H locs hB => ?_)
        refine lv_iinc (v := (x1 + (1 : Int32))) (lv' := [(1, .int (x1 + (1 : Int32))), (0, .ref (ad 0))]) S.1 S.2.1 dX10_begin_47 hl (k := 1) rfl rfl (by decide) rfl (fun ls hl => ?_)
        refine lv_goto (tgt := 22) S.1 S.2.1 dX10_begin_50 (by decide) ?_
        exact ih _ _ _ _ _ h hB (lv_sub hl [1, 0] rfl)
  refine lv_aload_n S.1 S.2.1 dX10_begin_0 rfl (lv_at hl 0 rfl) ?_
  refine tg_0_5 S hK hB (S.2.2.2.2 _ (List.mem_cons_of_mem _ wf_X10_51)) dX10_begin_1 ?_
  refine lv_iconst (v := (0 : Int32)) S.1 S.2.1 dX10_begin_4 (by decide) ?_
  refine tpN_44_2 S hK hB (nF hKS 29 rfl) dX10_begin_5 (fun H locs hB => ?_)
  refine lv_aload_n S.1 S.2.1 dX10_begin_8 rfl (lv_at hl 0 rfl) ?_
  refine tg_0_5 S hK hB (S.2.2.2.2 _ (List.mem_cons_of_mem _ wf_X10_51)) dX10_begin_9 ?_
  refine lv_aload_n S.1 S.2.1 dX10_begin_12 rfl (lv_at hl 0 rfl) ?_
  refine lv_iconst (v := (0 : Int32)) S.1 S.2.1 dX10_begin_13 (by decide) ?_
  obtain ⟨r_1, σ_1, e_1, h⟩ := b2s h
  refine cCallI S hK cKSc hKS hA (kX10_howMany e_1) (cwX10_140 S.2.2.2.2 (rm := rmX10_howMany) rfl rfl ⟨Nat.le_of_ble_eq_true rfl, Nat.le_of_ble_eq_true rfl⟩) hB 0 rfl rfl rfl hl.1 rfl (lv_room (Nat.le_of_ble_eq_true rfl)) dX10_begin_14 ⟨Nat.zero_le _, Nat.zero_le _⟩ (fun H locs hB => ?_)
  refine tpN_44_3 S hK hB (nF hKS 30 rfl) dX10_begin_17 (fun H locs hB => ?_)
  refine lv_iconst (v := (0 : Int32)) S.1 S.2.1 dX10_begin_20 (by decide) ?_
  refine lv_istore_n (lv' := [(1, .int (0 : Int32)), (0, .ref (ad 0))]) S.1 S.2.1 dX10_begin_21 rfl hl (by decide) rfl (fun ls hl => ?_)
  exact P22  L _ _ _ _ _ h hB (lv_sub hl [1, 0] rfl)
def FX10_doStep_22 (L : Nat)  : Nat → Int32 → Int32 → CS → Option (Unit × CS)
  | 0, _, _, _ => none
  | n+1, x2, x3, σ1 =>
    if (σ1.1 4403) ≤ x3 then
      b2 (FX6_reckon L (0 : Int32) (σ1.1 2809) x2 (tI σ1 4402 (x2 + (1 : Int32)))) fun (_ : Unit) σ_2 =>
      if (σ_2.1 10) = 0 then
        some ((), σ_2)
      else
        b2 (FX6_reckon L (σ_2.1 12) (σ_2.1 13) x2 σ_2) fun (_ : Unit) σ_4 =>
        some ((), σ_4)
    else
      (FX10_doStep_22 L n) x2 (x3 + (1 : Int32)) (tT σ1 0 (putT 8 (σ1.2.2.2.2 0) x3 x2 (getL 8 (σ1.2.2.2.1 58) x3)))
def FX10_doStep (L : Nat) (p0 : Int32) (σ : CS) : Option (Unit × CS) :=
  FX10_doStep_22 L L (σ.1 4402) (0 : Int32) (tA σ 46 (putI 120 (σ.2.2.1 46) (σ.1 4402) p0))
abbrev rmX10_doStep : Room := { frames := 6, cells := 0, slots := 0, locals := 144 }
set_option maxRecDepth 100000 in
set_option maxHeartbeats 4000000 in
theorem kX10_doStep {l : Launch} {D : va_G} {cI cJ cQ : ClassId} {ad : Nat → Nat} {ra : Nat → Nat → Nat} {adK adV tK : Nat → Nat} {L : Nat} {p0 : Int32} {σ σ' : CS} (h : FX10_doStep L p0 σ = some ((), σ')) : gMet l yX10_doStep qX10_doStep rmX10_doStep 0 0 D vwCl [(cI, .int), (cJ, .long), (cQ, .array .long)] (cKS adK adV tK) [.ref (ad 0), .int p0] (CW cI cJ cQ ad ra σ) (CW cI cJ cQ ad ra σ') none := by
  refine gMet.of (cc := cX10_doStep) (maxL := 4) (ret := none) (by decide) rfl (Nat.le_of_ble_eq_true rfl) ?_
  intro p e s m args below meth c S hr hlk hnm hK hKS hA hB ls hl
  have hl : lv_has ls 4 [(0, .ref (ad 0)), (1, .int p0)] := hl
  replace S : CallFix p m c cX10_doStep 4 s args (_ :: wsL_law) RX10 := S
  rw [FX10_doStep] at h
  have P22 : ∀  (n : Nat), ∀ (x2 : Int32) (x3 : Int32) (σ1 : CS) (H : Heap) (locs : List Loc) (ls : Array Slot), FX10_doStep_22 L n x2 x3 σ1 = some ((), σ') → gB D vwCl (va_A (CW cI cJ cQ ad ra σ) s.heap.size) s.heap (CW cI cJ cQ ad ra σ1) [] H locs → lv_has ls 4 [(0, .ref (ad 0)), (2, .int x2), (3, .int x3)] → W p l e rmX10_doStep s m args below meth c H locs 0 0 (MQ below (gQ D vwCl (CW cI cJ cQ ad ra σ) (CW cI cJ cQ ad ra σ') none s.heap.size) args s 0 0 (va_A (CW cI cJ cQ ad ra σ) s.heap.size)) (F0 m 22 ls []) := by
    intro n
    induction n with
    | zero => intro x2 x3 σ1 H locs ls h; simp only [FX10_doStep_22] at h; cases h
    | succ n ih =>
      intro x2 x3 σ1 H locs ls h hB hl
      rw [FX10_doStep_22] at h
      refine lv_iload_n S.1 S.2.1 dX10_doStep_22 rfl (lv_at hl 2 rfl) ?_
      refine lv_aload_n S.1 S.2.1 dX10_doStep_23 rfl (lv_at hl 0 rfl) ?_
      refine tg_0_5 S hK hB (S.2.2.2.2 _ (List.mem_cons_of_mem _ wf_X10_51)) dX10_doStep_24 ?_
      refine tgN_44_3 S hK hB (nF hKS 30 rfl) rfl dX10_doStep_27 ?_
      refine lv_icmp_ge (tgt := 59) S.1 S.2.1 dX10_doStep_30 (by decide) (fun c_1 => ?_) (fun c_1 => ?_)
      · replace h := (if_pos c_1).symm.trans h
        refine lv_aload_n S.1 S.2.1 dX10_doStep_59 rfl (lv_at hl 0 rfl) ?_
        refine tg_0_5 S hK hB (S.2.2.2.2 _ (List.mem_cons_of_mem _ wf_X10_51)) dX10_doStep_60 ?_
        refine lv_iload_n S.1 S.2.1 dX10_doStep_63 rfl (lv_at hl 1 rfl) ?_
        refine lv_iconst (v := (1 : Int32)) S.1 S.2.1 dX10_doStep_64 (by decide) ?_
        refine lv_iadd S.1 S.2.1 dX10_doStep_65 ?_
        refine tpN_44_2 S hK hB (nF hKS 29 rfl) dX10_doStep_66 (fun H locs hB => ?_)
        refine lv_aload_n S.1 S.2.1 dX10_doStep_69 rfl (lv_at hl 0 rfl) ?_
        refine tg_0_7 S hK hB (S.2.2.2.2 _ (List.mem_cons_of_mem _ wf_X10_63)) dX10_doStep_70 ?_
        refine lv_iconst (v := (0 : Int32)) S.1 S.2.1 dX10_doStep_73 (by decide) ?_
        refine lv_aload_n S.1 S.2.1 dX10_doStep_74 rfl (lv_at hl 0 rfl) ?_
        refine tg_0_3 S hK hB (S.2.2.2.2 _ (List.mem_cons_of_mem _ wf_X10_35)) dX10_doStep_75 ?_
        refine tgN_28_9 (v := (σ1.1 2809)) S hK hB (nF hKS 22 rfl) rfl dX10_doStep_78 ?_
        refine lv_iload_n S.1 S.2.1 dX10_doStep_81 rfl (lv_at hl 1 rfl) ?_
        obtain ⟨_, σ_2, e_2, h⟩ := b2s h
        refine cCallV S hK cKSc hKS hA (kX6_reckon e_2) (cwX10_263 S.2.2.2.2 (rm := rmX6_reckon) rfl rfl ⟨Nat.le_of_ble_eq_true rfl, Nat.le_of_ble_eq_true rfl⟩) hB 54 rfl rfl rfl hl.1 rfl (lv_room (Nat.le_of_ble_eq_true rfl)) dX10_doStep_82 ⟨Nat.zero_le _, Nat.zero_le _⟩ (fun H locs hB => ?_)
        refine lv_aload_n S.1 S.2.1 dX10_doStep_85 rfl (lv_at hl 0 rfl) ?_
        refine tg_0_10 S hK hB (S.2.2.2.2 _ (List.mem_cons_of_mem _ wf_X10_107)) rfl dX10_doStep_86 ?_
        refine lv_if_eq (tgt := 108) S.1 S.2.1 dX10_doStep_89 (by decide) (fun c_3 => ?_) (fun c_3 => ?_)
        · replace h := (if_pos c_3).symm.trans h
          cases h
          exact gRetV S.1 S.2.1 hr hlk hB dX10_doStep_108
        · replace h := (if_neg c_3).symm.trans h
          refine lv_aload_n S.1 S.2.1 dX10_doStep_92 rfl (lv_at hl 0 rfl) ?_
          refine tg_0_7 S hK hB (S.2.2.2.2 _ (List.mem_cons_of_mem _ wf_X10_63)) dX10_doStep_93 ?_
          refine lv_aload_n S.1 S.2.1 dX10_doStep_96 rfl (lv_at hl 0 rfl) ?_
          refine tg_0_12 S hK hB (S.2.2.2.2 _ (List.mem_cons_of_mem _ wf_X10_80)) rfl dX10_doStep_97 ?_
          refine lv_aload_n S.1 S.2.1 dX10_doStep_100 rfl (lv_at hl 0 rfl) ?_
          refine tg_0_13 S hK hB (S.2.2.2.2 _ (List.mem_cons_of_mem _ wf_X10_83)) rfl dX10_doStep_101 ?_
          refine lv_iload_n S.1 S.2.1 dX10_doStep_104 rfl (lv_at hl 1 rfl) ?_
          obtain ⟨_, σ_4, e_4, h⟩ := b2s h
          refine cCallV S hK cKSc hKS hA (kX6_reckon e_4) (cwX10_263 S.2.2.2.2 (rm := rmX6_reckon) rfl rfl ⟨Nat.le_of_ble_eq_true rfl, Nat.le_of_ble_eq_true rfl⟩) hB 54 rfl rfl rfl hl.1 rfl (lv_room (Nat.le_of_ble_eq_true rfl)) dX10_doStep_105 ⟨Nat.zero_le _, Nat.zero_le _⟩ (fun H locs hB => ?_)
          cases h
          exact gRetV S.1 S.2.1 hr hlk hB dX10_doStep_108
      · replace h := (if_neg c_1).symm.trans h
        refine lv_aload_n S.1 S.2.1 dX10_doStep_33 rfl (lv_at hl 0 rfl) ?_
        refine tg_0_5 S hK hB (S.2.2.2.2 _ (List.mem_cons_of_mem _ wf_X10_51)) dX10_doStep_34 ?_
        refine tgN_44_1 S hK hB (nF hKS 27 rfl) dX10_doStep_37 ?_
        refine lv_iload_n S.1 S.2.1 dX10_doStep_40 rfl (lv_at hl 2 rfl) ?_
        refine lv_iload_n S.1 S.2.1 dX10_doStep_41 rfl (lv_at hl 1 rfl) ?_
        refine lv_aload_n S.1 S.2.1 dX10_doStep_42 rfl (lv_at hl 0 rfl) ?_
        refine tg_0_8 S hK hB (S.2.2.2.2 _ (List.mem_cons_of_mem _ wf_X10_72)) dX10_doStep_43 ?_
        refine lv_iload_n S.1 S.2.1 dX10_doStep_46 rfl (lv_at hl 2 rfl) ?_
        refine lg_57 (r := (getL 8 (σ1.2.2.2.1 58) x3)) S hK cKSc hKS hA hB rfl (cwX10_150 S.2.2.2.2 (rm := { frames := 0, cells := 0, slots := 0, locals := 0 }) rfl rfl ⟨Nat.le_of_ble_eq_true rfl, Nat.le_of_ble_eq_true rfl⟩) hl.1 (lv_room (Nat.le_of_ble_eq_true rfl)) dX10_doStep_47 ⟨Nat.zero_le _, Nat.zero_le _⟩ (fun H locs hB => ?_)
        refine lp_47 S hK cKSc hKS hA hB (cwX10_292 S.2.2.2.2 (rm := { frames := 0, cells := 0, slots := 0, locals := 0 }) rfl rfl ⟨Nat.le_of_ble_eq_true rfl, Nat.le_of_ble_eq_true rfl⟩) hl.1 (lv_room (Nat.le_of_ble_eq_true rfl)) dX10_doStep_50 ⟨Nat.zero_le _, Nat.zero_le _⟩ (fun H locs hB => ?_)
        refine lv_iinc (v := (x3 + (1 : Int32))) (lv' := [(3, .int (x3 + (1 : Int32))), (0, .ref (ad 0)), (2, .int x2)]) S.1 S.2.1 dX10_doStep_53 hl (k := 2) rfl rfl (by decide) rfl (fun ls hl => ?_)
        refine lv_goto (tgt := 22) S.1 S.2.1 dX10_doStep_56 (by decide) ?_
        exact ih _ _ _ _ _ _ h hB (lv_sub hl [1, 2, 0] rfl)
  refine lv_aload_n S.1 S.2.1 dX10_doStep_0 rfl (lv_at hl 0 rfl) ?_
  refine tg_0_5 S hK hB (S.2.2.2.2 _ (List.mem_cons_of_mem _ wf_X10_51)) dX10_doStep_1 ?_
  refine tgN_44_2 S hK hB (nF hKS 29 rfl) rfl dX10_doStep_4 ?_
  refine lv_istore_n (lv' := [(2, .int (σ.1 4402)), (0, .ref (ad 0)), (1, .int p0)]) S.1 S.2.1 dX10_doStep_7 rfl hl (by decide) rfl (fun ls hl => ?_)
  refine lv_aload_n S.1 S.2.1 dX10_doStep_8 rfl (lv_at hl 1 rfl) ?_
  refine tg_0_5 S hK hB (S.2.2.2.2 _ (List.mem_cons_of_mem _ wf_X10_51)) dX10_doStep_9 ?_
  refine tgN_44_0 S hK hB (nF hKS 26 rfl) dX10_doStep_12 ?_
  refine lv_iload_n S.1 S.2.1 dX10_doStep_15 rfl (lv_at hl 0 rfl) ?_
  refine lv_iload_n S.1 S.2.1 dX10_doStep_16 rfl (lv_at hl 2 rfl) ?_
  refine lp_45 S hK cKSc hKS hA hB (cwX10_290 S.2.2.2.2 (rm := { frames := 0, cells := 0, slots := 0, locals := 0 }) rfl rfl ⟨Nat.le_of_ble_eq_true rfl, Nat.le_of_ble_eq_true rfl⟩) hl.1 (lv_room (Nat.le_of_ble_eq_true rfl)) dX10_doStep_17 ⟨Nat.zero_le _, Nat.zero_le _⟩ (fun H locs hB => ?_)
  refine lv_iconst (v := (0 : Int32)) S.1 S.2.1 dX10_doStep_20 (by decide) ?_
  refine lv_istore_n (lv' := [(3, .int (0 : Int32)), (2, .int (σ.1 4402)), (0, .ref (ad 0)), (1, .int p0)]) S.1 S.2.1 dX10_doStep_21 rfl hl (by decide) rfl (fun ls hl => ?_)
  exact P22  L _ _ _ _ _ _ h hB (lv_sub hl [2, 1, 0] rfl)
def FX10_broken_14 (L : Nat)  : Nat → Int32 → Int32 → Int32 → CS → Option (Int32 × CS)
  | 0, _, _, _, _ => none
  | n+1, x1, x2, x3, σ1 =>
    b2 (FX10_howMany (3 : Int32) σ1) fun r_2 σ_2 =>
    if r_2 ≤ x3 then
      some (x2, σ_2)
    else
      if (getI 12 (σ_2.2.2.1 42) x3) < x1 then
        (FX10_broken_14 L n) x1 x2 (x3 + (1 : Int32)) σ_2
      else
        b2 (FX10_reckoned (3 : Int32) x3 ((σ_2.1 4402) - (1 : Int32)) σ_2) fun r_5 σ_5 =>
        if r_5 = (0 : Int64) then
          (FX10_broken_14 L n) x1 (x2 + (1 : Int32)) (x3 + (1 : Int32)) σ_5
        else
          (FX10_broken_14 L n) x1 x2 (x3 + (1 : Int32)) σ_5
def FX10_broken (L : Nat) (p0 : Int32) (σ : CS) : Option (Int32 × CS) :=
  if (σ.1 4402) ≤ 0 then
    some ((0 : Int32), σ)
  else
    FX10_broken_14 L L p0 (0 : Int32) (0 : Int32) σ
abbrev rmX10_broken : Room := { frames := 3, cells := 0, slots := 0, locals := 66 }
set_option maxRecDepth 100000 in
set_option maxHeartbeats 4000000 in
theorem kX10_broken {l : Launch} {D : va_G} {cI cJ cQ : ClassId} {ad : Nat → Nat} {ra : Nat → Nat → Nat} {adK adV tK : Nat → Nat} {L : Nat} {p0 : Int32} {σ σ' : CS} {r : Int32} (h : FX10_broken L p0 σ = some (r, σ')) : gMet l yX10_broken qX10_broken rmX10_broken 0 0 D vwCl [(cI, .int), (cJ, .long), (cQ, .array .long)] (cKS adK adV tK) [.ref (ad 0), .int p0] (CW cI cJ cQ ad ra σ) (CW cI cJ cQ ad ra σ') (some (.int r)) := by
  refine gMet.of (cc := cX10_broken) (maxL := 4) (ret := (some .int)) (by decide) rfl (Nat.le_of_ble_eq_true rfl) ?_
  intro p e s m args below meth c S hr hlk hnm hK hKS hA hB ls hl
  have hl : lv_has ls 4 [(0, .ref (ad 0)), (1, .int p0)] := hl
  replace S : CallFix p m c cX10_broken 4 s args (_ :: wsL_law) RX10 := S
  rw [FX10_broken] at h
  have P14 : ∀  (n : Nat), ∀ (x1 : Int32) (x2 : Int32) (x3 : Int32) (σ1 : CS) (H : Heap) (locs : List Loc) (ls : Array Slot), FX10_broken_14 L n x1 x2 x3 σ1 = some (r, σ') → gB D vwCl (va_A (CW cI cJ cQ ad ra σ) s.heap.size) s.heap (CW cI cJ cQ ad ra σ1) [] H locs → lv_has ls 4 [(0, .ref (ad 0)), (1, .int x1), (2, .int x2), (3, .int x3)] → W p l e rmX10_broken s m args below meth c H locs 0 0 (MQ below (gQ D vwCl (CW cI cJ cQ ad ra σ) (CW cI cJ cQ ad ra σ') (some (.int r)) s.heap.size) args s 0 0 (va_A (CW cI cJ cQ ad ra σ) s.heap.size)) (F0 m 14 ls []) := by
    intro n
    induction n with
    | zero => intro x1 x2 x3 σ1 H locs ls h; simp only [FX10_broken_14] at h; cases h
    | succ n ih =>
      intro x1 x2 x3 σ1 H locs ls h hB hl
      rw [FX10_broken_14] at h
      refine lv_iload_n S.1 S.2.1 dX10_broken_14 rfl (lv_at hl 3 rfl) ?_
      refine lv_aload_n S.1 S.2.1 dX10_broken_15 rfl (lv_at hl 0 rfl) ?_
      refine lv_iconst (v := (3 : Int32)) S.1 S.2.1 dX10_broken_16 (by decide) ?_
      obtain ⟨r_2, σ_2, e_2, h⟩ := b2s h
      refine cCallI S hK cKSc hKS hA (kX10_howMany e_2) (cwX10_140 S.2.2.2.2 (rm := rmX10_howMany) rfl rfl ⟨Nat.le_of_ble_eq_true rfl, Nat.le_of_ble_eq_true rfl⟩) hB 0 rfl rfl rfl hl.1 rfl (lv_room (Nat.le_of_ble_eq_true rfl)) dX10_broken_17 ⟨Nat.zero_le _, Nat.zero_le _⟩ (fun H locs hB => ?_)
      refine lv_icmp_ge (tgt := 67) S.1 S.2.1 dX10_broken_20 (by decide) (fun c_3 => ?_) (fun c_3 => ?_)
      · replace h := (if_pos c_3).symm.trans h
        refine lv_iload_n S.1 S.2.1 dX10_broken_67 rfl (lv_at hl 2 rfl) ?_
        cases h
        exact gRetI S.1 S.2.1 hr hlk hB dX10_broken_68
      · replace h := (if_neg c_3).symm.trans h
        refine lv_aload_n S.1 S.2.1 dX10_broken_23 rfl (lv_at hl 0 rfl) ?_
        refine tg_0_3 S hK hB (S.2.2.2.2 _ (List.mem_cons_of_mem _ wf_X10_35)) dX10_broken_24 ?_
        refine tgN_28_6 S hK hB (nF hKS 20 rfl) dX10_broken_27 ?_
        refine lv_iload_n S.1 S.2.1 dX10_broken_30 rfl (lv_at hl 3 rfl) ?_
        refine lg_41 (r := (getI 12 (σ_2.2.2.1 42) x3)) S hK cKSc hKS hA hB rfl (cwX10_205 S.2.2.2.2 (rm := { frames := 0, cells := 0, slots := 0, locals := 0 }) rfl rfl ⟨Nat.le_of_ble_eq_true rfl, Nat.le_of_ble_eq_true rfl⟩) hl.1 (lv_room (Nat.le_of_ble_eq_true rfl)) dX10_broken_31 ⟨Nat.zero_le _, Nat.zero_le _⟩ (fun H locs hB => ?_)
        refine lv_iload_n S.1 S.2.1 dX10_broken_34 rfl (lv_at hl 1 rfl) ?_
        refine lv_icmp_lt (tgt := 61) S.1 S.2.1 dX10_broken_35 (by decide) (fun c_4 => ?_) (fun c_4 => ?_)
        · replace h := (if_pos c_4).symm.trans h
          refine lv_iinc (v := (x3 + (1 : Int32))) (lv' := [(3, .int (x3 + (1 : Int32))), (0, .ref (ad 0)), (1, .int x1), (2, .int x2)]) S.1 S.2.1 dX10_broken_61 hl (k := 3) rfl rfl (by decide) rfl (fun ls hl => ?_)
          refine lv_goto (tgt := 14) S.1 S.2.1 dX10_broken_64 (by decide) ?_
          exact ih _ _ _ _ _ _ _ h hB (lv_sub hl [1, 2, 3, 0] rfl)
        · replace h := (if_neg c_4).symm.trans h
          refine lv_aload_n S.1 S.2.1 dX10_broken_38 rfl (lv_at hl 0 rfl) ?_
          refine lv_iconst (v := (3 : Int32)) S.1 S.2.1 dX10_broken_39 (by decide) ?_
          refine lv_iload_n S.1 S.2.1 dX10_broken_40 rfl (lv_at hl 3 rfl) ?_
          refine lv_aload_n S.1 S.2.1 dX10_broken_41 rfl (lv_at hl 0 rfl) ?_
          refine tg_0_5 S hK hB (S.2.2.2.2 _ (List.mem_cons_of_mem _ wf_X10_51)) dX10_broken_42 ?_
          refine tgN_44_2 S hK hB (nF hKS 29 rfl) rfl dX10_broken_45 ?_
          refine lv_iconst (v := (1 : Int32)) S.1 S.2.1 dX10_broken_48 (by decide) ?_
          refine lv_isub S.1 S.2.1 dX10_broken_49 ?_
          obtain ⟨r_5, σ_5, e_5, h⟩ := b2s h
          refine cCallL S hK cKSc hKS hA (kX10_reckoned e_5) (cwX10_219 S.2.2.2.2 (rm := rmX10_reckoned) rfl rfl ⟨Nat.le_of_ble_eq_true rfl, Nat.le_of_ble_eq_true rfl⟩) hB 0 rfl rfl rfl hl.1 rfl (lv_room (Nat.le_of_ble_eq_true rfl)) dX10_broken_50 ⟨Nat.zero_le _, Nat.zero_le _⟩ (fun H locs hB => ?_)
          refine lv_lconst (v := 0) S.1 S.2.1 dX10_broken_53 (by decide) ?_
          refine W.lcmp S.1 S.2.1 dX10_broken_54 ?_
          refine lv_if_ne (tgt := 61) S.1 S.2.1 dX10_broken_55 (by decide) (fun c_6 => ?_) (fun c_6 => ?_)
          · replace c_6 := (not_congr lc_eq).mp c_6
            replace h := (if_neg c_6).symm.trans h
            refine lv_iinc (v := (x3 + (1 : Int32))) (lv' := [(3, .int (x3 + (1 : Int32))), (0, .ref (ad 0)), (1, .int x1), (2, .int x2)]) S.1 S.2.1 dX10_broken_61 hl (k := 3) rfl rfl (by decide) rfl (fun ls hl => ?_)
            refine lv_goto (tgt := 14) S.1 S.2.1 dX10_broken_64 (by decide) ?_
            exact ih _ _ _ _ _ _ _ h hB (lv_sub hl [1, 2, 3, 0] rfl)
          · replace c_6 := lc_eq.mp c_6
            replace h := (if_pos c_6).symm.trans h
            refine lv_iinc (v := (x2 + (1 : Int32))) (lv' := [(2, .int (x2 + (1 : Int32))), (0, .ref (ad 0)), (1, .int x1), (3, .int x3)]) S.1 S.2.1 dX10_broken_58 hl (k := 2) rfl rfl (by decide) rfl (fun ls hl => ?_)
            refine lv_iinc (v := (x3 + (1 : Int32))) (lv' := [(3, .int (x3 + (1 : Int32))), (2, .int (x2 + (1 : Int32))), (0, .ref (ad 0)), (1, .int x1)]) S.1 S.2.1 dX10_broken_61 hl (k := 3) rfl rfl (by decide) rfl (fun ls hl => ?_)
            refine lv_goto (tgt := 14) S.1 S.2.1 dX10_broken_64 (by decide) ?_
            exact ih _ _ _ _ _ _ _ h hB (lv_sub hl [2, 3, 1, 0] rfl)
  refine lv_iconst (v := (0 : Int32)) S.1 S.2.1 dX10_broken_0 (by decide) ?_
  refine lv_istore_n (lv' := [(2, .int (0 : Int32)), (0, .ref (ad 0)), (1, .int p0)]) S.1 S.2.1 dX10_broken_1 rfl hl (by decide) rfl (fun ls hl => ?_)
  refine lv_aload_n S.1 S.2.1 dX10_broken_2 rfl (lv_at hl 1 rfl) ?_
  refine tg_0_5 S hK hB (S.2.2.2.2 _ (List.mem_cons_of_mem _ wf_X10_51)) dX10_broken_3 ?_
  refine tgN_44_2 S hK hB (nF hKS 29 rfl) rfl dX10_broken_6 ?_
  refine lv_if_le (tgt := 67) S.1 S.2.1 dX10_broken_9 (by decide) (fun c_1 => ?_) (fun c_1 => ?_)
  · replace h := (if_pos c_1).symm.trans h
    refine lv_iload_n S.1 S.2.1 dX10_broken_67 rfl (lv_at hl 0 rfl) ?_
    cases h
    exact gRetI S.1 S.2.1 hr hlk hB dX10_broken_68
  · replace h := (if_neg c_1).symm.trans h
    refine lv_iconst (v := (0 : Int32)) S.1 S.2.1 dX10_broken_12 (by decide) ?_
    refine lv_istore_n (lv' := [(3, .int (0 : Int32)), (2, .int (0 : Int32)), (0, .ref (ad 0)), (1, .int p0)]) S.1 S.2.1 dX10_broken_13 rfl hl (by decide) rfl (fun ls hl => ?_)
    exact P14  L _ _ _ _ _ _ _ h hB (lv_sub hl [2, 3, 1, 0] rfl)
def FX10_misses_4 (L : Nat)  : Nat → Int32 → Int32 → Int32 → CS → Option (Int32 × CS)
  | 0, _, _, _, _ => none
  | n+1, x1, x2, x3, σ1 =>
    if (σ1.1 4402) ≤ x3 then
      some (x2, σ1)
    else
      b2 (FX10_reckoned (3 : Int32) x1 x3 σ1) fun r_2 σ_2 =>
      if r_2 = (0 : Int64) then
        (FX10_misses_4 L n) x1 (x2 + (1 : Int32)) (x3 + (1 : Int32)) σ_2
      else
        (FX10_misses_4 L n) x1 x2 (x3 + (1 : Int32)) σ_2
def FX10_misses (L : Nat) (p0 : Int32) (σ : CS) : Option (Int32 × CS) :=
  FX10_misses_4 L L p0 (0 : Int32) (0 : Int32) σ
abbrev rmX10_misses : Room := { frames := 3, cells := 0, slots := 0, locals := 66 }
set_option maxRecDepth 100000 in
set_option maxHeartbeats 4000000 in
theorem kX10_misses {l : Launch} {D : va_G} {cI cJ cQ : ClassId} {ad : Nat → Nat} {ra : Nat → Nat → Nat} {adK adV tK : Nat → Nat} {L : Nat} {p0 : Int32} {σ σ' : CS} {r : Int32} (h : FX10_misses L p0 σ = some (r, σ')) : gMet l yX10_misses qX10_misses rmX10_misses 0 0 D vwCl [(cI, .int), (cJ, .long), (cQ, .array .long)] (cKS adK adV tK) [.ref (ad 0), .int p0] (CW cI cJ cQ ad ra σ) (CW cI cJ cQ ad ra σ') (some (.int r)) := by
  refine gMet.of (cc := cX10_misses) (maxL := 4) (ret := (some .int)) (by decide) rfl (Nat.le_of_ble_eq_true rfl) ?_
  intro p e s m args below meth c S hr hlk hnm hK hKS hA hB ls hl
  have hl : lv_has ls 4 [(0, .ref (ad 0)), (1, .int p0)] := hl
  replace S : CallFix p m c cX10_misses 4 s args (_ :: wsL_law) RX10 := S
  rw [FX10_misses] at h
  have P4 : ∀  (n : Nat), ∀ (x1 : Int32) (x2 : Int32) (x3 : Int32) (σ1 : CS) (H : Heap) (locs : List Loc) (ls : Array Slot), FX10_misses_4 L n x1 x2 x3 σ1 = some (r, σ') → gB D vwCl (va_A (CW cI cJ cQ ad ra σ) s.heap.size) s.heap (CW cI cJ cQ ad ra σ1) [] H locs → lv_has ls 4 [(0, .ref (ad 0)), (1, .int x1), (2, .int x2), (3, .int x3)] → W p l e rmX10_misses s m args below meth c H locs 0 0 (MQ below (gQ D vwCl (CW cI cJ cQ ad ra σ) (CW cI cJ cQ ad ra σ') (some (.int r)) s.heap.size) args s 0 0 (va_A (CW cI cJ cQ ad ra σ) s.heap.size)) (F0 m 4 ls []) := by
    intro n
    induction n with
    | zero => intro x1 x2 x3 σ1 H locs ls h; simp only [FX10_misses_4] at h; cases h
    | succ n ih =>
      intro x1 x2 x3 σ1 H locs ls h hB hl
      rw [FX10_misses_4] at h
      refine lv_iload_n S.1 S.2.1 dX10_misses_4 rfl (lv_at hl 3 rfl) ?_
      refine lv_aload_n S.1 S.2.1 dX10_misses_5 rfl (lv_at hl 0 rfl) ?_
      refine tg_0_5 S hK hB (S.2.2.2.2 _ (List.mem_cons_of_mem _ wf_X10_51)) dX10_misses_6 ?_
      refine tgN_44_2 S hK hB (nF hKS 29 rfl) rfl dX10_misses_9 ?_
      refine lv_icmp_ge (tgt := 36) S.1 S.2.1 dX10_misses_12 (by decide) (fun c_1 => ?_) (fun c_1 => ?_)
      · replace h := (if_pos c_1).symm.trans h
        refine lv_iload_n S.1 S.2.1 dX10_misses_36 rfl (lv_at hl 2 rfl) ?_
        cases h
        exact gRetI S.1 S.2.1 hr hlk hB dX10_misses_37
      · replace h := (if_neg c_1).symm.trans h
        refine lv_aload_n S.1 S.2.1 dX10_misses_15 rfl (lv_at hl 0 rfl) ?_
        refine lv_iconst (v := (3 : Int32)) S.1 S.2.1 dX10_misses_16 (by decide) ?_
        refine lv_iload_n S.1 S.2.1 dX10_misses_17 rfl (lv_at hl 1 rfl) ?_
        refine lv_iload_n S.1 S.2.1 dX10_misses_18 rfl (lv_at hl 3 rfl) ?_
        obtain ⟨r_2, σ_2, e_2, h⟩ := b2s h
        refine cCallL S hK cKSc hKS hA (kX10_reckoned e_2) (cwX10_219 S.2.2.2.2 (rm := rmX10_reckoned) rfl rfl ⟨Nat.le_of_ble_eq_true rfl, Nat.le_of_ble_eq_true rfl⟩) hB 0 rfl rfl rfl hl.1 rfl (lv_room (Nat.le_of_ble_eq_true rfl)) dX10_misses_19 ⟨Nat.zero_le _, Nat.zero_le _⟩ (fun H locs hB => ?_)
        refine lv_lconst (v := 0) S.1 S.2.1 dX10_misses_22 (by decide) ?_
        refine W.lcmp S.1 S.2.1 dX10_misses_23 ?_
        refine lv_if_ne (tgt := 30) S.1 S.2.1 dX10_misses_24 (by decide) (fun c_3 => ?_) (fun c_3 => ?_)
        · replace c_3 := (not_congr lc_eq).mp c_3
          replace h := (if_neg c_3).symm.trans h
          refine lv_iinc (v := (x3 + (1 : Int32))) (lv' := [(3, .int (x3 + (1 : Int32))), (0, .ref (ad 0)), (1, .int x1), (2, .int x2)]) S.1 S.2.1 dX10_misses_30 hl (k := 3) rfl rfl (by decide) rfl (fun ls hl => ?_)
          refine lv_goto (tgt := 4) S.1 S.2.1 dX10_misses_33 (by decide) ?_
          exact ih _ _ _ _ _ _ _ h hB (lv_sub hl [1, 2, 3, 0] rfl)
        · replace c_3 := lc_eq.mp c_3
          replace h := (if_pos c_3).symm.trans h
          refine lv_iinc (v := (x2 + (1 : Int32))) (lv' := [(2, .int (x2 + (1 : Int32))), (0, .ref (ad 0)), (1, .int x1), (3, .int x3)]) S.1 S.2.1 dX10_misses_27 hl (k := 2) rfl rfl (by decide) rfl (fun ls hl => ?_)
          refine lv_iinc (v := (x3 + (1 : Int32))) (lv' := [(3, .int (x3 + (1 : Int32))), (2, .int (x2 + (1 : Int32))), (0, .ref (ad 0)), (1, .int x1)]) S.1 S.2.1 dX10_misses_30 hl (k := 3) rfl rfl (by decide) rfl (fun ls hl => ?_)
          refine lv_goto (tgt := 4) S.1 S.2.1 dX10_misses_33 (by decide) ?_
          exact ih _ _ _ _ _ _ _ h hB (lv_sub hl [2, 3, 1, 0] rfl)
  refine lv_iconst (v := (0 : Int32)) S.1 S.2.1 dX10_misses_0 (by decide) ?_
  refine lv_istore_n (lv' := [(2, .int (0 : Int32)), (0, .ref (ad 0)), (1, .int p0)]) S.1 S.2.1 dX10_misses_1 rfl hl (by decide) rfl (fun ls hl => ?_)
  refine lv_iconst (v := (0 : Int32)) S.1 S.2.1 dX10_misses_2 (by decide) ?_
  refine lv_istore_n (lv' := [(3, .int (0 : Int32)), (2, .int (0 : Int32)), (0, .ref (ad 0)), (1, .int p0)]) S.1 S.2.1 dX10_misses_3 rfl hl (by decide) rfl (fun ls hl => ?_)
  exact P4  L _ _ _ _ _ _ _ h hB (lv_sub hl [2, 3, 1, 0] rfl)
def FX10_firstMiss_2 (L : Nat)  : Nat → Int32 → Int32 → CS → Option (Int32 × CS)
  | 0, _, _, _ => none
  | n+1, x1, x2, σ1 =>
    if (σ1.1 4402) ≤ x2 then
      some ((-1 : Int32), σ1)
    else
      b2 (FX10_reckoned (3 : Int32) x1 x2 σ1) fun r_2 σ_2 =>
      if r_2 = (0 : Int64) then
        some (x2, σ_2)
      else
        (FX10_firstMiss_2 L n) x1 (x2 + (1 : Int32)) σ_2
def FX10_firstMiss (L : Nat) (p0 : Int32) (σ : CS) : Option (Int32 × CS) :=
  FX10_firstMiss_2 L L p0 (0 : Int32) σ
abbrev rmX10_firstMiss : Room := { frames := 3, cells := 0, slots := 0, locals := 66 }
set_option maxRecDepth 100000 in
set_option maxHeartbeats 4000000 in
theorem kX10_firstMiss {l : Launch} {D : va_G} {cI cJ cQ : ClassId} {ad : Nat → Nat} {ra : Nat → Nat → Nat} {adK adV tK : Nat → Nat} {L : Nat} {p0 : Int32} {σ σ' : CS} {r : Int32} (h : FX10_firstMiss L p0 σ = some (r, σ')) : gMet l yX10_firstMiss qX10_firstMiss rmX10_firstMiss 0 0 D vwCl [(cI, .int), (cJ, .long), (cQ, .array .long)] (cKS adK adV tK) [.ref (ad 0), .int p0] (CW cI cJ cQ ad ra σ) (CW cI cJ cQ ad ra σ') (some (.int r)) := by
  refine gMet.of (cc := cX10_firstMiss) (maxL := 3) (ret := (some .int)) (by decide) rfl (Nat.le_of_ble_eq_true rfl) ?_
  intro p e s m args below meth c S hr hlk hnm hK hKS hA hB ls hl
  have hl : lv_has ls 3 [(0, .ref (ad 0)), (1, .int p0)] := hl
  replace S : CallFix p m c cX10_firstMiss 3 s args (_ :: wsL_law) RX10 := S
  rw [FX10_firstMiss] at h
  have P2 : ∀  (n : Nat), ∀ (x1 : Int32) (x2 : Int32) (σ1 : CS) (H : Heap) (locs : List Loc) (ls : Array Slot), FX10_firstMiss_2 L n x1 x2 σ1 = some (r, σ') → gB D vwCl (va_A (CW cI cJ cQ ad ra σ) s.heap.size) s.heap (CW cI cJ cQ ad ra σ1) [] H locs → lv_has ls 3 [(0, .ref (ad 0)), (1, .int x1), (2, .int x2)] → W p l e rmX10_firstMiss s m args below meth c H locs 0 0 (MQ below (gQ D vwCl (CW cI cJ cQ ad ra σ) (CW cI cJ cQ ad ra σ') (some (.int r)) s.heap.size) args s 0 0 (va_A (CW cI cJ cQ ad ra σ) s.heap.size)) (F0 m 2 ls []) := by
    intro n
    induction n with
    | zero => intro x1 x2 σ1 H locs ls h; simp only [FX10_firstMiss_2] at h; cases h
    | succ n ih =>
      intro x1 x2 σ1 H locs ls h hB hl
      rw [FX10_firstMiss_2] at h
      refine lv_iload_n S.1 S.2.1 dX10_firstMiss_2 rfl (lv_at hl 2 rfl) ?_
      refine lv_aload_n S.1 S.2.1 dX10_firstMiss_3 rfl (lv_at hl 0 rfl) ?_
      refine tg_0_5 S hK hB (S.2.2.2.2 _ (List.mem_cons_of_mem _ wf_X10_51)) dX10_firstMiss_4 ?_
      refine tgN_44_2 S hK hB (nF hKS 29 rfl) rfl dX10_firstMiss_7 ?_
      refine lv_icmp_ge (tgt := 33) S.1 S.2.1 dX10_firstMiss_10 (by decide) (fun c_1 => ?_) (fun c_1 => ?_)
      · replace h := (if_pos c_1).symm.trans h
        refine lv_iconst (v := (-1 : Int32)) S.1 S.2.1 dX10_firstMiss_33 (by decide) ?_
        cases h
        exact gRetI S.1 S.2.1 hr hlk hB dX10_firstMiss_34
      · replace h := (if_neg c_1).symm.trans h
        refine lv_aload_n S.1 S.2.1 dX10_firstMiss_13 rfl (lv_at hl 0 rfl) ?_
        refine lv_iconst (v := (3 : Int32)) S.1 S.2.1 dX10_firstMiss_14 (by decide) ?_
        refine lv_iload_n S.1 S.2.1 dX10_firstMiss_15 rfl (lv_at hl 1 rfl) ?_
        refine lv_iload_n S.1 S.2.1 dX10_firstMiss_16 rfl (lv_at hl 2 rfl) ?_
        obtain ⟨r_2, σ_2, e_2, h⟩ := b2s h
        refine cCallL S hK cKSc hKS hA (kX10_reckoned e_2) (cwX10_219 S.2.2.2.2 (rm := rmX10_reckoned) rfl rfl ⟨Nat.le_of_ble_eq_true rfl, Nat.le_of_ble_eq_true rfl⟩) hB 0 rfl rfl rfl hl.1 rfl (lv_room (Nat.le_of_ble_eq_true rfl)) dX10_firstMiss_17 ⟨Nat.zero_le _, Nat.zero_le _⟩ (fun H locs hB => ?_)
        refine lv_lconst (v := 0) S.1 S.2.1 dX10_firstMiss_20 (by decide) ?_
        refine W.lcmp S.1 S.2.1 dX10_firstMiss_21 ?_
        refine lv_if_ne (tgt := 27) S.1 S.2.1 dX10_firstMiss_22 (by decide) (fun c_3 => ?_) (fun c_3 => ?_)
        · replace c_3 := (not_congr lc_eq).mp c_3
          replace h := (if_neg c_3).symm.trans h
          refine lv_iinc (v := (x2 + (1 : Int32))) (lv' := [(2, .int (x2 + (1 : Int32))), (0, .ref (ad 0)), (1, .int x1)]) S.1 S.2.1 dX10_firstMiss_27 hl (k := 2) rfl rfl (by decide) rfl (fun ls hl => ?_)
          refine lv_goto (tgt := 2) S.1 S.2.1 dX10_firstMiss_30 (by decide) ?_
          exact ih _ _ _ _ _ _ h hB (lv_sub hl [1, 2, 0] rfl)
        · replace c_3 := lc_eq.mp c_3
          replace h := (if_pos c_3).symm.trans h
          refine lv_iload_n S.1 S.2.1 dX10_firstMiss_25 rfl (lv_at hl 2 rfl) ?_
          cases h
          exact gRetI S.1 S.2.1 hr hlk hB dX10_firstMiss_26
  refine lv_iconst (v := (0 : Int32)) S.1 S.2.1 dX10_firstMiss_0 (by decide) ?_
  refine lv_istore_n (lv' := [(2, .int (0 : Int32)), (0, .ref (ad 0)), (1, .int p0)]) S.1 S.2.1 dX10_firstMiss_1 rfl hl (by decide) rfl (fun ls hl => ?_)
  exact P2  L _ _ _ _ _ _ h hB (lv_sub hl [1, 2, 0] rfl)
def FX10_longestMiss_39 (L : Nat) (k7 : Int32 → Int32 → Int32 → Int32 → CS → Option (Int32 × CS)) (x1 : Int32) (x2 : Int32) (x4 : Int32) (y0 : Int32) (σ1 : CS) : Option (Int32 × CS) :=
    k7 x1 (if x2 < y0 then y0 else x2) y0 (x4 + (1 : Int32)) σ1
def FX10_longestMiss_7 (L : Nat)  : Nat → Int32 → Int32 → Int32 → Int32 → CS → Option (Int32 × CS)
  | 0, _, _, _, _, _ => none
  | n+1, x1, x2, x3, x4, σ1 =>
    if (σ1.1 4402) ≤ x4 then
      some (x2, σ1)
    else
      b2 (FX10_reckoned (3 : Int32) x1 x4 σ1) fun r_2 σ_2 =>
      if r_2 = (0 : Int64) then
        FX10_longestMiss_39 L (FX10_longestMiss_7 L n) x1 x2 x4 (x3 + (1 : Int32)) σ_2
      else
        FX10_longestMiss_39 L (FX10_longestMiss_7 L n) x1 x2 x4 (0 : Int32) σ_2
def FX10_longestMiss (L : Nat) (p0 : Int32) (σ : CS) : Option (Int32 × CS) :=
  FX10_longestMiss_7 L L p0 (0 : Int32) (0 : Int32) (0 : Int32) σ
abbrev rmX10_longestMiss : Room := { frames := 3, cells := 0, slots := 0, locals := 66 }
set_option maxRecDepth 100000 in
set_option maxHeartbeats 4000000 in
theorem kX10_longestMiss {l : Launch} {D : va_G} {cI cJ cQ : ClassId} {ad : Nat → Nat} {ra : Nat → Nat → Nat} {adK adV tK : Nat → Nat} {L : Nat} {p0 : Int32} {σ σ' : CS} {r : Int32} (h : FX10_longestMiss L p0 σ = some (r, σ')) : gMet l yX10_longestMiss qX10_longestMiss rmX10_longestMiss 0 0 D vwCl [(cI, .int), (cJ, .long), (cQ, .array .long)] (cKS adK adV tK) [.ref (ad 0), .int p0] (CW cI cJ cQ ad ra σ) (CW cI cJ cQ ad ra σ') (some (.int r)) := by
  refine gMet.of (cc := cX10_longestMiss) (maxL := 5) (ret := (some .int)) (by decide) rfl (Nat.le_of_ble_eq_true rfl) ?_
  intro p e s m args below meth c S hr hlk hnm hK hKS hA hB ls hl
  have hl : lv_has ls 5 [(0, .ref (ad 0)), (1, .int p0)] := hl
  replace S : CallFix p m c cX10_longestMiss 5 s args (_ :: wsL_law) RX10 := S
  rw [FX10_longestMiss] at h
  have P39 : ∀ (k7 : Int32 → Int32 → Int32 → Int32 → CS → Option (Int32 × CS)) (hk7 : ∀ (x1 : Int32) (x2 : Int32) (x3 : Int32) (x4 : Int32) (σ1 : CS) (H : Heap) (locs : List Loc) (ls : Array Slot), k7 x1 x2 x3 x4 σ1 = some (r, σ') → gB D vwCl (va_A (CW cI cJ cQ ad ra σ) s.heap.size) s.heap (CW cI cJ cQ ad ra σ1) [] H locs → lv_has ls 5 [(0, .ref (ad 0)), (1, .int x1), (2, .int x2), (3, .int x3), (4, .int x4)] → W p l e rmX10_longestMiss s m args below meth c H locs 0 0 (MQ below (gQ D vwCl (CW cI cJ cQ ad ra σ) (CW cI cJ cQ ad ra σ') (some (.int r)) s.heap.size) args s 0 0 (va_A (CW cI cJ cQ ad ra σ) s.heap.size)) (F0 m 7 ls [])), ∀ (x1 : Int32) (x2 : Int32) (x4 : Int32) (y0 : Int32) (σ1 : CS) (H : Heap) (locs : List Loc) (ls : Array Slot), FX10_longestMiss_39 L k7 x1 x2 x4 y0 σ1 = some (r, σ') → gB D vwCl (va_A (CW cI cJ cQ ad ra σ) s.heap.size) s.heap (CW cI cJ cQ ad ra σ1) [] H locs → lv_has ls 5 [(0, .ref (ad 0)), (1, .int x1), (2, .int x2), (4, .int x4)] → W p l e rmX10_longestMiss s m args below meth c H locs 0 0 (MQ below (gQ D vwCl (CW cI cJ cQ ad ra σ) (CW cI cJ cQ ad ra σ') (some (.int r)) s.heap.size) args s 0 0 (va_A (CW cI cJ cQ ad ra σ) s.heap.size)) (F0 m 39 ls [.int y0]) := by
    intro k7 hk7 x1 x2 x4 y0 σ1 H locs ls h hB hl
    rw [FX10_longestMiss_39] at h
    refine lv_istore_n (lv' := [(3, .int y0), (0, .ref (ad 0)), (1, .int x1), (2, .int x2), (4, .int x4)]) S.1 S.2.1 dX10_longestMiss_39 rfl hl (by decide) rfl (fun ls hl => ?_)
    refine lv_iload_n S.1 S.2.1 dX10_longestMiss_40 rfl (lv_at hl 3 rfl) ?_
    refine lv_iload_n S.1 S.2.1 dX10_longestMiss_41 rfl (lv_at hl 0 rfl) ?_
    refine va_mmax S.1 S.2.1 (S.2.2.1.trans hl.1.symm) S.2.2.2.1 (S.2.2.2.2 _ (List.mem_cons_of_mem _ wm_X10_307)) (S.2.2.2.2 _ (List.mem_cons_of_mem _ wo_static_Math_max_name)) (S.2.2.2.2 _ (List.mem_cons_of_mem _ wo_init_Math)) (S.2.2.2.2 _ (List.mem_cons_of_mem _ wo_code_Math_max_name)) (Nat.le_of_ble_eq_true rfl) (Nat.le_of_ble_eq_true rfl) (Nat.zero_le _) (Nat.zero_le _) dX10_longestMiss_42 ?_
    refine lv_istore_n (lv' := [(2, .int (if x2 < y0 then y0 else x2)), (3, .int y0), (0, .ref (ad 0)), (1, .int x1), (4, .int x4)]) S.1 S.2.1 dX10_longestMiss_45 rfl hl (by decide) rfl (fun ls hl => ?_)
    refine lv_iinc (v := (x4 + (1 : Int32))) (lv' := [(4, .int (x4 + (1 : Int32))), (2, .int (if x2 < y0 then y0 else x2)), (3, .int y0), (0, .ref (ad 0)), (1, .int x1)]) S.1 S.2.1 dX10_longestMiss_46 hl (k := 4) rfl rfl (by decide) rfl (fun ls hl => ?_)
    refine lv_goto (tgt := 7) S.1 S.2.1 dX10_longestMiss_49 (by decide) ?_
    exact hk7 _ _ _ _ _ _ _ _ h hB (lv_sub hl [3, 4, 1, 2, 0] rfl)
  have P7 : ∀  (n : Nat), ∀ (x1 : Int32) (x2 : Int32) (x3 : Int32) (x4 : Int32) (σ1 : CS) (H : Heap) (locs : List Loc) (ls : Array Slot), FX10_longestMiss_7 L n x1 x2 x3 x4 σ1 = some (r, σ') → gB D vwCl (va_A (CW cI cJ cQ ad ra σ) s.heap.size) s.heap (CW cI cJ cQ ad ra σ1) [] H locs → lv_has ls 5 [(0, .ref (ad 0)), (1, .int x1), (2, .int x2), (3, .int x3), (4, .int x4)] → W p l e rmX10_longestMiss s m args below meth c H locs 0 0 (MQ below (gQ D vwCl (CW cI cJ cQ ad ra σ) (CW cI cJ cQ ad ra σ') (some (.int r)) s.heap.size) args s 0 0 (va_A (CW cI cJ cQ ad ra σ) s.heap.size)) (F0 m 7 ls []) := by
    intro n
    induction n with
    | zero => intro x1 x2 x3 x4 σ1 H locs ls h; simp only [FX10_longestMiss_7] at h; cases h
    | succ n ih =>
      intro x1 x2 x3 x4 σ1 H locs ls h hB hl
      rw [FX10_longestMiss_7] at h
      refine lv_iload S.1 S.2.1 dX10_longestMiss_7 (lv_at hl 4 rfl) ?_
      refine lv_aload_n S.1 S.2.1 dX10_longestMiss_9 rfl (lv_at hl 0 rfl) ?_
      refine tg_0_5 S hK hB (S.2.2.2.2 _ (List.mem_cons_of_mem _ wf_X10_51)) dX10_longestMiss_10 ?_
      refine tgN_44_2 S hK hB (nF hKS 29 rfl) rfl dX10_longestMiss_13 ?_
      refine lv_icmp_ge (tgt := 52) S.1 S.2.1 dX10_longestMiss_16 (by decide) (fun c_1 => ?_) (fun c_1 => ?_)
      · replace h := (if_pos c_1).symm.trans h
        refine lv_iload_n S.1 S.2.1 dX10_longestMiss_52 rfl (lv_at hl 2 rfl) ?_
        cases h
        exact gRetI S.1 S.2.1 hr hlk hB dX10_longestMiss_53
      · replace h := (if_neg c_1).symm.trans h
        refine lv_aload_n S.1 S.2.1 dX10_longestMiss_19 rfl (lv_at hl 0 rfl) ?_
        refine lv_iconst (v := (3 : Int32)) S.1 S.2.1 dX10_longestMiss_20 (by decide) ?_
        refine lv_iload_n S.1 S.2.1 dX10_longestMiss_21 rfl (lv_at hl 1 rfl) ?_
        refine lv_iload S.1 S.2.1 dX10_longestMiss_22 (lv_at hl 4 rfl) ?_
        obtain ⟨r_2, σ_2, e_2, h⟩ := b2s h
        refine cCallL S hK cKSc hKS hA (kX10_reckoned e_2) (cwX10_219 S.2.2.2.2 (rm := rmX10_reckoned) rfl rfl ⟨Nat.le_of_ble_eq_true rfl, Nat.le_of_ble_eq_true rfl⟩) hB 0 rfl rfl rfl hl.1 rfl (lv_room (Nat.le_of_ble_eq_true rfl)) dX10_longestMiss_24 ⟨Nat.zero_le _, Nat.zero_le _⟩ (fun H locs hB => ?_)
        refine lv_lconst (v := 0) S.1 S.2.1 dX10_longestMiss_27 (by decide) ?_
        refine W.lcmp S.1 S.2.1 dX10_longestMiss_28 ?_
        refine lv_if_ne (tgt := 38) S.1 S.2.1 dX10_longestMiss_29 (by decide) (fun c_3 => ?_) (fun c_3 => ?_)
        · replace c_3 := (not_congr lc_eq).mp c_3
          replace h := (if_neg c_3).symm.trans h
          refine lv_iconst (v := (0 : Int32)) S.1 S.2.1 dX10_longestMiss_38 (by decide) ?_
          exact P39 (FX10_longestMiss_7 L n) ih _ _ _ _ _ _ _ _ h hB (lv_sub hl [0, 1, 2, 4] rfl)
        · replace c_3 := lc_eq.mp c_3
          replace h := (if_pos c_3).symm.trans h
          refine lv_iload_n S.1 S.2.1 dX10_longestMiss_32 rfl (lv_at hl 3 rfl) ?_
          refine lv_iconst (v := (1 : Int32)) S.1 S.2.1 dX10_longestMiss_33 (by decide) ?_
          refine lv_iadd S.1 S.2.1 dX10_longestMiss_34 ?_
          refine lv_goto (tgt := 39) S.1 S.2.1 dX10_longestMiss_35 (by decide) ?_
          exact P39 (FX10_longestMiss_7 L n) ih _ _ _ _ _ _ _ _ h hB (lv_sub hl [0, 1, 2, 4] rfl)
  refine lv_iconst (v := (0 : Int32)) S.1 S.2.1 dX10_longestMiss_0 (by decide) ?_
  refine lv_istore_n (lv' := [(2, .int (0 : Int32)), (0, .ref (ad 0)), (1, .int p0)]) S.1 S.2.1 dX10_longestMiss_1 rfl hl (by decide) rfl (fun ls hl => ?_)
  refine lv_iconst (v := (0 : Int32)) S.1 S.2.1 dX10_longestMiss_2 (by decide) ?_
  refine lv_istore_n (lv' := [(3, .int (0 : Int32)), (2, .int (0 : Int32)), (0, .ref (ad 0)), (1, .int p0)]) S.1 S.2.1 dX10_longestMiss_3 rfl hl (by decide) rfl (fun ls hl => ?_)
  refine lv_iconst (v := (0 : Int32)) S.1 S.2.1 dX10_longestMiss_4 (by decide) ?_
  refine lv_istore (lv' := [(4, .int (0 : Int32)), (3, .int (0 : Int32)), (2, .int (0 : Int32)), (0, .ref (ad 0)), (1, .int p0)]) S.1 S.2.1 dX10_longestMiss_5 hl (by decide) rfl (fun ls hl => ?_)
  exact P7  L _ _ _ _ _ _ _ _ h hB (lv_sub hl [3, 4, 2, 1, 0] rfl)
def FX10_latestMiss_4 (L : Nat)  : Nat → Int32 → Int32 → Int32 → CS → Option (Int32 × CS)
  | 0, _, _, _, _ => none
  | n+1, x1, x2, x3, σ1 =>
    if (σ1.1 4402) ≤ x3 then
      some (x2, σ1)
    else
      b2 (FX10_reckoned (3 : Int32) x1 x3 σ1) fun r_2 σ_2 =>
      if r_2 = (0 : Int64) then
        (FX10_latestMiss_4 L n) x1 (x2 + (1 : Int32)) (x3 + (1 : Int32)) σ_2
      else
        (FX10_latestMiss_4 L n) x1 (0 : Int32) (x3 + (1 : Int32)) σ_2
def FX10_latestMiss (L : Nat) (p0 : Int32) (σ : CS) : Option (Int32 × CS) :=
  FX10_latestMiss_4 L L p0 (0 : Int32) (0 : Int32) σ
abbrev rmX10_latestMiss : Room := { frames := 3, cells := 0, slots := 0, locals := 66 }
set_option maxRecDepth 100000 in
set_option maxHeartbeats 4000000 in
theorem kX10_latestMiss {l : Launch} {D : va_G} {cI cJ cQ : ClassId} {ad : Nat → Nat} {ra : Nat → Nat → Nat} {adK adV tK : Nat → Nat} {L : Nat} {p0 : Int32} {σ σ' : CS} {r : Int32} (h : FX10_latestMiss L p0 σ = some (r, σ')) : gMet l yX10_latestMiss qX10_latestMiss rmX10_latestMiss 0 0 D vwCl [(cI, .int), (cJ, .long), (cQ, .array .long)] (cKS adK adV tK) [.ref (ad 0), .int p0] (CW cI cJ cQ ad ra σ) (CW cI cJ cQ ad ra σ') (some (.int r)) := by
  refine gMet.of (cc := cX10_latestMiss) (maxL := 4) (ret := (some .int)) (by decide) rfl (Nat.le_of_ble_eq_true rfl) ?_
  intro p e s m args below meth c S hr hlk hnm hK hKS hA hB ls hl
  have hl : lv_has ls 4 [(0, .ref (ad 0)), (1, .int p0)] := hl
  replace S : CallFix p m c cX10_latestMiss 4 s args (_ :: wsL_law) RX10 := S
  rw [FX10_latestMiss] at h
  have P4 : ∀  (n : Nat), ∀ (x1 : Int32) (x2 : Int32) (x3 : Int32) (σ1 : CS) (H : Heap) (locs : List Loc) (ls : Array Slot), FX10_latestMiss_4 L n x1 x2 x3 σ1 = some (r, σ') → gB D vwCl (va_A (CW cI cJ cQ ad ra σ) s.heap.size) s.heap (CW cI cJ cQ ad ra σ1) [] H locs → lv_has ls 4 [(0, .ref (ad 0)), (1, .int x1), (2, .int x2), (3, .int x3)] → W p l e rmX10_latestMiss s m args below meth c H locs 0 0 (MQ below (gQ D vwCl (CW cI cJ cQ ad ra σ) (CW cI cJ cQ ad ra σ') (some (.int r)) s.heap.size) args s 0 0 (va_A (CW cI cJ cQ ad ra σ) s.heap.size)) (F0 m 4 ls []) := by
    intro n
    induction n with
    | zero => intro x1 x2 x3 σ1 H locs ls h; simp only [FX10_latestMiss_4] at h; cases h
    | succ n ih =>
      intro x1 x2 x3 σ1 H locs ls h hB hl
      rw [FX10_latestMiss_4] at h
      refine lv_iload_n S.1 S.2.1 dX10_latestMiss_4 rfl (lv_at hl 3 rfl) ?_
      refine lv_aload_n S.1 S.2.1 dX10_latestMiss_5 rfl (lv_at hl 0 rfl) ?_
      refine tg_0_5 S hK hB (S.2.2.2.2 _ (List.mem_cons_of_mem _ wf_X10_51)) dX10_latestMiss_6 ?_
      refine tgN_44_2 S hK hB (nF hKS 29 rfl) rfl dX10_latestMiss_9 ?_
      refine lv_icmp_ge (tgt := 41) S.1 S.2.1 dX10_latestMiss_12 (by decide) (fun c_1 => ?_) (fun c_1 => ?_)
      · replace h := (if_pos c_1).symm.trans h
        refine lv_iload_n S.1 S.2.1 dX10_latestMiss_41 rfl (lv_at hl 2 rfl) ?_
        cases h
        exact gRetI S.1 S.2.1 hr hlk hB dX10_latestMiss_42
      · replace h := (if_neg c_1).symm.trans h
        refine lv_aload_n S.1 S.2.1 dX10_latestMiss_15 rfl (lv_at hl 0 rfl) ?_
        refine lv_iconst (v := (3 : Int32)) S.1 S.2.1 dX10_latestMiss_16 (by decide) ?_
        refine lv_iload_n S.1 S.2.1 dX10_latestMiss_17 rfl (lv_at hl 1 rfl) ?_
        refine lv_iload_n S.1 S.2.1 dX10_latestMiss_18 rfl (lv_at hl 3 rfl) ?_
        obtain ⟨r_2, σ_2, e_2, h⟩ := b2s h
        refine cCallL S hK cKSc hKS hA (kX10_reckoned e_2) (cwX10_219 S.2.2.2.2 (rm := rmX10_reckoned) rfl rfl ⟨Nat.le_of_ble_eq_true rfl, Nat.le_of_ble_eq_true rfl⟩) hB 0 rfl rfl rfl hl.1 rfl (lv_room (Nat.le_of_ble_eq_true rfl)) dX10_latestMiss_19 ⟨Nat.zero_le _, Nat.zero_le _⟩ (fun H locs hB => ?_)
        refine lv_lconst (v := 0) S.1 S.2.1 dX10_latestMiss_22 (by decide) ?_
        refine W.lcmp S.1 S.2.1 dX10_latestMiss_23 ?_
        refine lv_if_ne (tgt := 33) S.1 S.2.1 dX10_latestMiss_24 (by decide) (fun c_3 => ?_) (fun c_3 => ?_)
        · replace c_3 := (not_congr lc_eq).mp c_3
          replace h := (if_neg c_3).symm.trans h
          refine lv_iconst (v := (0 : Int32)) S.1 S.2.1 dX10_latestMiss_33 (by decide) ?_
          refine lv_istore_n (lv' := [(2, .int (0 : Int32)), (0, .ref (ad 0)), (1, .int x1), (3, .int x3)]) S.1 S.2.1 dX10_latestMiss_34 rfl hl (by decide) rfl (fun ls hl => ?_)
          refine lv_iinc (v := (x3 + (1 : Int32))) (lv' := [(3, .int (x3 + (1 : Int32))), (2, .int (0 : Int32)), (0, .ref (ad 0)), (1, .int x1)]) S.1 S.2.1 dX10_latestMiss_35 hl (k := 3) rfl rfl (by decide) rfl (fun ls hl => ?_)
          refine lv_goto (tgt := 4) S.1 S.2.1 dX10_latestMiss_38 (by decide) ?_
          exact ih _ _ _ _ _ _ _ h hB (lv_sub hl [2, 3, 1, 0] rfl)
        · replace c_3 := lc_eq.mp c_3
          replace h := (if_pos c_3).symm.trans h
          refine lv_iload_n S.1 S.2.1 dX10_latestMiss_27 rfl (lv_at hl 2 rfl) ?_
          refine lv_iconst (v := (1 : Int32)) S.1 S.2.1 dX10_latestMiss_28 (by decide) ?_
          refine lv_iadd S.1 S.2.1 dX10_latestMiss_29 ?_
          refine lv_goto (tgt := 34) S.1 S.2.1 dX10_latestMiss_30 (by decide) ?_
          refine lv_istore_n (lv' := [(2, .int (x2 + (1 : Int32))), (0, .ref (ad 0)), (1, .int x1), (3, .int x3)]) S.1 S.2.1 dX10_latestMiss_34 rfl hl (by decide) rfl (fun ls hl => ?_)
          refine lv_iinc (v := (x3 + (1 : Int32))) (lv' := [(3, .int (x3 + (1 : Int32))), (2, .int (x2 + (1 : Int32))), (0, .ref (ad 0)), (1, .int x1)]) S.1 S.2.1 dX10_latestMiss_35 hl (k := 3) rfl rfl (by decide) rfl (fun ls hl => ?_)
          refine lv_goto (tgt := 4) S.1 S.2.1 dX10_latestMiss_38 (by decide) ?_
          exact ih _ _ _ _ _ _ _ h hB (lv_sub hl [2, 3, 1, 0] rfl)
  refine lv_iconst (v := (0 : Int32)) S.1 S.2.1 dX10_latestMiss_0 (by decide) ?_
  refine lv_istore_n (lv' := [(2, .int (0 : Int32)), (0, .ref (ad 0)), (1, .int p0)]) S.1 S.2.1 dX10_latestMiss_1 rfl hl (by decide) rfl (fun ls hl => ?_)
  refine lv_iconst (v := (0 : Int32)) S.1 S.2.1 dX10_latestMiss_2 (by decide) ?_
  refine lv_istore_n (lv' := [(3, .int (0 : Int32)), (2, .int (0 : Int32)), (0, .ref (ad 0)), (1, .int p0)]) S.1 S.2.1 dX10_latestMiss_3 rfl hl (by decide) rfl (fun ls hl => ?_)
  exact P4  L _ _ _ _ _ _ _ h hB (lv_sub hl [2, 3, 1, 0] rfl)
def FX10_toldOf (L : Nat) (p0 : Int32) (p1 : Int32) (σ : CS) : Option (Int32 × CS) :=
  if p1 = 0 then
    some ((getI 12 (σ.2.2.1 42) p0), σ)
  else if p1 = 1 then
    b2 (FX10_misses L p0 σ) fun r_3 σ_3 =>
    some (r_3, σ_3)
  else if p1 = 2 then
    b2 (FX10_firstMiss L p0 σ) fun r_5 σ_5 =>
    some (r_5, σ_5)
  else if p1 = 3 then
    b2 (FX10_longestMiss L p0 σ) fun r_7 σ_7 =>
    some (r_7, σ_7)
  else 
    b2 (FX10_latestMiss L p0 σ) fun r_8 σ_8 =>
    some (r_8, σ_8)
abbrev rmX10_toldOf : Room := { frames := 4, cells := 0, slots := 0, locals := 90 }
set_option maxRecDepth 100000 in
set_option maxHeartbeats 4000000 in
theorem kX10_toldOf {l : Launch} {D : va_G} {cI cJ cQ : ClassId} {ad : Nat → Nat} {ra : Nat → Nat → Nat} {adK adV tK : Nat → Nat} {L : Nat} {p0 : Int32} {p1 : Int32} {σ σ' : CS} {r : Int32} (h : FX10_toldOf L p0 p1 σ = some (r, σ')) : gMet l yX10_toldOf qX10_toldOf rmX10_toldOf 0 0 D vwCl [(cI, .int), (cJ, .long), (cQ, .array .long)] (cKS adK adV tK) [.ref (ad 0), .int p0, .int p1] (CW cI cJ cQ ad ra σ) (CW cI cJ cQ ad ra σ') (some (.int r)) := by
  refine gMet.of (cc := cX10_toldOf) (maxL := 3) (ret := (some .int)) (by decide) rfl (Nat.le_of_ble_eq_true rfl) ?_
  intro p e s m args below meth c S hr hlk hnm hK hKS hA hB ls hl
  have hl : lv_has ls 3 [(0, .ref (ad 0)), (1, .int p0), (2, .int p1)] := hl
  replace S : CallFix p m c cX10_toldOf 3 s args (_ :: wsL_law) RX10 := S
  rw [FX10_toldOf] at h
  refine lv_iload_n S.1 S.2.1 dX10_toldOf_0 rfl (lv_at hl 2 rfl) ?_
  by_cases c_1 : p1 = 0
  · replace h := (if_pos c_1).symm.trans h
    refine lv_tableIn (off := 31) (tgt := 32) S.1 S.2.1 dX10_toldOf_1 (by rw [c_1]; decide) (by rw [c_1]; decide) (by rw [c_1]; rfl) (by decide) ?_
    refine lv_aload_n S.1 S.2.1 dX10_toldOf_32 rfl (lv_at hl 0 rfl) ?_
    refine tg_0_3 S hK hB (S.2.2.2.2 _ (List.mem_cons_of_mem _ wf_X10_35)) dX10_toldOf_33 ?_
    refine tgN_28_6 S hK hB (nF hKS 20 rfl) dX10_toldOf_36 ?_
    refine lv_iload_n S.1 S.2.1 dX10_toldOf_39 rfl (lv_at hl 1 rfl) ?_
    refine lg_41 (r := (getI 12 (σ.2.2.1 42) p0)) S hK cKSc hKS hA hB rfl (cwX10_205 S.2.2.2.2 (rm := { frames := 0, cells := 0, slots := 0, locals := 0 }) rfl rfl ⟨Nat.le_of_ble_eq_true rfl, Nat.le_of_ble_eq_true rfl⟩) hl.1 (lv_room (Nat.le_of_ble_eq_true rfl)) dX10_toldOf_40 ⟨Nat.zero_le _, Nat.zero_le _⟩ (fun H locs hB => ?_)
    cases h
    exact gRetI S.1 S.2.1 hr hlk hB dX10_toldOf_43
  · replace h := (if_neg c_1).symm.trans h
    by_cases c_2 : p1 = 1
    · replace h := (if_pos c_2).symm.trans h
      refine lv_tableIn (off := 43) (tgt := 44) S.1 S.2.1 dX10_toldOf_1 (by rw [c_2]; decide) (by rw [c_2]; decide) (by rw [c_2]; rfl) (by decide) ?_
      refine lv_aload_n S.1 S.2.1 dX10_toldOf_44 rfl (lv_at hl 0 rfl) ?_
      refine lv_iload_n S.1 S.2.1 dX10_toldOf_45 rfl (lv_at hl 1 rfl) ?_
      obtain ⟨r_3, σ_3, e_3, h⟩ := b2s h
      refine cCallI S hK cKSc hKS hA (kX10_misses e_3) (cwX10_254 S.2.2.2.2 (rm := rmX10_misses) rfl rfl ⟨Nat.le_of_ble_eq_true rfl, Nat.le_of_ble_eq_true rfl⟩) hB 0 rfl rfl rfl hl.1 rfl (lv_room (Nat.le_of_ble_eq_true rfl)) dX10_toldOf_46 ⟨Nat.zero_le _, Nat.zero_le _⟩ (fun H locs hB => ?_)
      cases h
      exact gRetI S.1 S.2.1 hr hlk hB dX10_toldOf_49
    · replace h := (if_neg c_2).symm.trans h
      by_cases c_4 : p1 = 2
      · replace h := (if_pos c_4).symm.trans h
        refine lv_tableIn (off := 49) (tgt := 50) S.1 S.2.1 dX10_toldOf_1 (by rw [c_4]; decide) (by rw [c_4]; decide) (by rw [c_4]; rfl) (by decide) ?_
        refine lv_aload_n S.1 S.2.1 dX10_toldOf_50 rfl (lv_at hl 0 rfl) ?_
        refine lv_iload_n S.1 S.2.1 dX10_toldOf_51 rfl (lv_at hl 1 rfl) ?_
        obtain ⟨r_5, σ_5, e_5, h⟩ := b2s h
        refine cCallI S hK cKSc hKS hA (kX10_firstMiss e_5) (cwX10_298 S.2.2.2.2 (rm := rmX10_firstMiss) rfl rfl ⟨Nat.le_of_ble_eq_true rfl, Nat.le_of_ble_eq_true rfl⟩) hB 0 rfl rfl rfl hl.1 rfl (lv_room (Nat.le_of_ble_eq_true rfl)) dX10_toldOf_52 ⟨Nat.zero_le _, Nat.zero_le _⟩ (fun H locs hB => ?_)
        cases h
        exact gRetI S.1 S.2.1 hr hlk hB dX10_toldOf_55
      · replace h := (if_neg c_4).symm.trans h
        by_cases c_6 : p1 = 3
        · replace h := (if_pos c_6).symm.trans h
          refine lv_tableIn (off := 55) (tgt := 56) S.1 S.2.1 dX10_toldOf_1 (by rw [c_6]; decide) (by rw [c_6]; decide) (by rw [c_6]; rfl) (by decide) ?_
          refine lv_aload_n S.1 S.2.1 dX10_toldOf_56 rfl (lv_at hl 0 rfl) ?_
          refine lv_iload_n S.1 S.2.1 dX10_toldOf_57 rfl (lv_at hl 1 rfl) ?_
          obtain ⟨r_7, σ_7, e_7, h⟩ := b2s h
          refine cCallI S hK cKSc hKS hA (kX10_longestMiss e_7) (cwX10_301 S.2.2.2.2 (rm := rmX10_longestMiss) rfl rfl ⟨Nat.le_of_ble_eq_true rfl, Nat.le_of_ble_eq_true rfl⟩) hB 0 rfl rfl rfl hl.1 rfl (lv_room (Nat.le_of_ble_eq_true rfl)) dX10_toldOf_58 ⟨Nat.zero_le _, Nat.zero_le _⟩ (fun H locs hB => ?_)
          cases h
          exact gRetI S.1 S.2.1 hr hlk hB dX10_toldOf_61
        · replace h := (if_neg c_6).symm.trans h
          refine swT (tgt := 62) (cs := [0, 1, 2, 3]) S.1 S.2.1 dX10_toldOf_1 (List.forall_mem_cons.mpr ⟨lv_neT c_1 (by decide), List.forall_mem_cons.mpr ⟨lv_neT c_2 (by decide), List.forall_mem_cons.mpr ⟨lv_neT c_4 (by decide), List.forall_mem_cons.mpr ⟨lv_neT c_6 (by decide), List.forall_mem_nil _⟩⟩⟩⟩) (by decide) (by decide) (by decide) ?_
          refine lv_aload_n S.1 S.2.1 dX10_toldOf_62 rfl (lv_at hl 0 rfl) ?_
          refine lv_iload_n S.1 S.2.1 dX10_toldOf_63 rfl (lv_at hl 1 rfl) ?_
          obtain ⟨r_8, σ_8, e_8, h⟩ := b2s h
          refine cCallI S hK cKSc hKS hA (kX10_latestMiss e_8) (cwX10_304 S.2.2.2.2 (rm := rmX10_latestMiss) rfl rfl ⟨Nat.le_of_ble_eq_true rfl, Nat.le_of_ble_eq_true rfl⟩) hB 0 rfl rfl rfl hl.1 rfl (lv_room (Nat.le_of_ble_eq_true rfl)) dX10_toldOf_64 ⟨Nat.zero_le _, Nat.zero_le _⟩ (fun H locs hB => ?_)
          cases h
          exact gRetI S.1 S.2.1 hr hlk hB dX10_toldOf_67
def FX10_digestSort_6 (L : Nat)  : Nat → Int32 → Int32 → Int64 → Int32 → CS → Option (Int64 × CS)
  | 0, _, _, _, _, _ => none
  | n+1, x3, x4, x5, x7, σ1 =>
    b2 (FX10_howMany x3 σ1) fun r_1 σ_1 =>
    if r_1 ≤ x7 then
      some (x5, σ_1)
    else
      b2 (FX10_reckoned x3 x7 x4 σ_1) fun r_3 σ_3 =>
      (FX10_digestSort_6 L n) x3 x4 ((x5 * (31 : Int64)) + r_3) (x7 + (1 : Int32)) σ_3
def FX10_digestSort (L : Nat) (p0 : Int64) (p1 : Int32) (p2 : Int32) (σ : CS) : Option (Int64 × CS) :=
  FX10_digestSort_6 L L p1 p2 p0 (0 : Int32) σ
abbrev rmX10_digestSort : Room := { frames := 3, cells := 0, slots := 0, locals := 66 }
set_option maxRecDepth 100000 in
set_option maxHeartbeats 4000000 in
theorem kX10_digestSort {l : Launch} {D : va_G} {cI cJ cQ : ClassId} {ad : Nat → Nat} {ra : Nat → Nat → Nat} {adK adV tK : Nat → Nat} {L : Nat} {p0 : Int64} {p1 : Int32} {p2 : Int32} {σ σ' : CS} {r : Int64} (h : FX10_digestSort L p0 p1 p2 σ = some (r, σ')) : gMet l yX10_digestSort qX10_digestSort rmX10_digestSort 0 0 D vwCl [(cI, .int), (cJ, .long), (cQ, .array .long)] (cKS adK adV tK) [.ref (ad 0), .long p0, .int p1, .int p2] (CW cI cJ cQ ad ra σ) (CW cI cJ cQ ad ra σ') (some (.long r)) := by
  refine gMet.of (cc := cX10_digestSort) (maxL := 8) (ret := (some .long)) (by decide) rfl (Nat.le_of_ble_eq_true rfl) ?_
  intro p e s m args below meth c S hr hlk hnm hK hKS hA hB ls hl
  have hl : lv_has ls 8 [(0, .ref (ad 0)), (1, .long p0), (3, .int p1), (4, .int p2)] := hl
  replace S : CallFix p m c cX10_digestSort 8 s args (_ :: wsL_law) RX10 := S
  rw [FX10_digestSort] at h
  have P6 : ∀  (n : Nat), ∀ (x3 : Int32) (x4 : Int32) (x5 : Int64) (x7 : Int32) (σ1 : CS) (H : Heap) (locs : List Loc) (ls : Array Slot), FX10_digestSort_6 L n x3 x4 x5 x7 σ1 = some (r, σ') → gB D vwCl (va_A (CW cI cJ cQ ad ra σ) s.heap.size) s.heap (CW cI cJ cQ ad ra σ1) [] H locs → lv_has ls 8 [(0, .ref (ad 0)), (3, .int x3), (4, .int x4), (5, .long x5), (7, .int x7)] → W p l e rmX10_digestSort s m args below meth c H locs 0 0 (MQ below (gQ D vwCl (CW cI cJ cQ ad ra σ) (CW cI cJ cQ ad ra σ') (some (.long r)) s.heap.size) args s 0 0 (va_A (CW cI cJ cQ ad ra σ) s.heap.size)) (F0 m 6 ls []) := by
    intro n
    induction n with
    | zero => intro x3 x4 x5 x7 σ1 H locs ls h; simp only [FX10_digestSort_6] at h; cases h
    | succ n ih =>
      intro x3 x4 x5 x7 σ1 H locs ls h hB hl
      rw [FX10_digestSort_6] at h
      refine lv_iload S.1 S.2.1 dX10_digestSort_6 (lv_at hl 4 rfl) ?_
      refine lv_aload_n S.1 S.2.1 dX10_digestSort_8 rfl (lv_at hl 0 rfl) ?_
      refine lv_iload_n S.1 S.2.1 dX10_digestSort_9 rfl (lv_at hl 1 rfl) ?_
      obtain ⟨r_1, σ_1, e_1, h⟩ := b2s h
      refine cCallI S hK cKSc hKS hA (kX10_howMany e_1) (cwX10_140 S.2.2.2.2 (rm := rmX10_howMany) rfl rfl ⟨Nat.le_of_ble_eq_true rfl, Nat.le_of_ble_eq_true rfl⟩) hB 0 rfl rfl rfl hl.1 rfl (lv_room (Nat.le_of_ble_eq_true rfl)) dX10_digestSort_10 ⟨Nat.zero_le _, Nat.zero_le _⟩ (fun H locs hB => ?_)
      refine lv_icmp_ge (tgt := 40) S.1 S.2.1 dX10_digestSort_13 (by decide) (fun c_2 => ?_) (fun c_2 => ?_)
      · replace h := (if_pos c_2).symm.trans h
        refine lv_lload S.1 S.2.1 dX10_digestSort_40 (lv_at hl 3 rfl) ?_
        cases h
        exact gRetL S.1 S.2.1 hr hlk hB dX10_digestSort_42
      · replace h := (if_neg c_2).symm.trans h
        refine lv_lload S.1 S.2.1 dX10_digestSort_16 (lv_at hl 3 rfl) ?_
        refine lv_ldc2 (v := 31) S.1 S.2.1 S.2.2.2.1 (S.2.2.2.2 _ (List.mem_cons_of_mem _ wk_X10_274)) dX10_digestSort_18 ?_
        refine lv_lmul S.1 S.2.1 dX10_digestSort_21 ?_
        refine lv_aload_n S.1 S.2.1 dX10_digestSort_22 rfl (lv_at hl 0 rfl) ?_
        refine lv_iload_n S.1 S.2.1 dX10_digestSort_23 rfl (lv_at hl 1 rfl) ?_
        refine lv_iload S.1 S.2.1 dX10_digestSort_24 (lv_at hl 4 rfl) ?_
        refine lv_iload S.1 S.2.1 dX10_digestSort_26 (lv_at hl 2 rfl) ?_
        obtain ⟨r_3, σ_3, e_3, h⟩ := b2s h
        refine cCallL S hK cKSc hKS hA (kX10_reckoned e_3) (cwX10_219 S.2.2.2.2 (rm := rmX10_reckoned) rfl rfl ⟨Nat.le_of_ble_eq_true rfl, Nat.le_of_ble_eq_true rfl⟩) hB 0 rfl rfl rfl hl.1 rfl (lv_room (Nat.le_of_ble_eq_true rfl)) dX10_digestSort_28 ⟨Nat.zero_le _, Nat.zero_le _⟩ (fun H locs hB => ?_)
        refine lv_ladd S.1 S.2.1 dX10_digestSort_31 ?_
        refine lv_lstore (lv' := [(5, .long ((x5 * (31 : Int64)) + r_3)), (0, .ref (ad 0)), (3, .int x3), (4, .int x4), (7, .int x7)]) S.1 S.2.1 dX10_digestSort_32 hl (by decide) rfl (fun ls hl => ?_)
        refine lv_iinc (v := (x7 + (1 : Int32))) (lv' := [(7, .int (x7 + (1 : Int32))), (5, .long ((x5 * (31 : Int64)) + r_3)), (0, .ref (ad 0)), (3, .int x3), (4, .int x4)]) S.1 S.2.1 dX10_digestSort_34 hl (k := 4) rfl rfl (by decide) rfl (fun ls hl => ?_)
        refine lv_goto (tgt := 6) S.1 S.2.1 dX10_digestSort_37 (by decide) ?_
        exact ih _ _ _ _ _ _ _ _ h hB (lv_sub hl [2, 3, 4, 1, 0] rfl)
  refine lv_lload_n S.1 S.2.1 dX10_digestSort_0 rfl (lv_at hl 1 rfl) ?_
  refine lv_lstore (lv' := [(5, .long p0), (0, .ref (ad 0)), (1, .long p0), (3, .int p1), (4, .int p2)]) S.1 S.2.1 dX10_digestSort_1 hl (by decide) rfl (fun ls hl => ?_)
  refine lv_iconst (v := (0 : Int32)) S.1 S.2.1 dX10_digestSort_3 (by decide) ?_
  refine lv_istore (lv' := [(7, .int (0 : Int32)), (5, .long p0), (0, .ref (ad 0)), (1, .long p0), (3, .int p1), (4, .int p2)]) S.1 S.2.1 dX10_digestSort_4 hl (by decide) rfl (fun ls hl => ?_)
  exact P6  L _ _ _ _ _ _ _ _ h hB (lv_sub hl [2, 4, 5, 1, 0] rfl)
def FX10_digestStep_23 (L : Nat)  : Nat → Int32 → Int64 → Int32 → CS → Option (Int64 × CS)
  | 0, _, _, _, _ => none
  | n+1, x3, x4, x6, σ1 =>
    b2 (FX10_howMany (0 : Int32) σ1) fun r_1 σ_1 =>
    if r_1 ≤ x6 then
      b2 (FX10_digestSort L x4 (2 : Int32) x3 σ_1) fun r_3 σ_3 =>
      b2 (FX10_digestSort L r_3 (1 : Int32) x3 σ_3) fun r_4 σ_4 =>
      b2 (FX10_digestSort L r_4 (3 : Int32) x3 σ_4) fun r_5 σ_5 =>
      some (r_5, σ_5)
    else
      (FX10_digestStep_23 L n) x3 ((x4 * (31 : Int64)) + (getT 8 (σ_1.2.2.2.2 0) x6 x3)) (x6 + (1 : Int32)) σ_1
def FX10_digestStep (L : Nat) (p0 : Int64) (p1 : Int32) (σ : CS) : Option (Int64 × CS) :=
  FX10_digestStep_23 L L p1 ((p0 * (31 : Int64)) + ((getI 120 (σ.2.2.1 46) p1).toInt64)) (0 : Int32) σ
abbrev rmX10_digestStep : Room := { frames := 4, cells := 0, slots := 0, locals := 93 }
set_option maxRecDepth 100000 in
set_option maxHeartbeats 4000000 in
theorem kX10_digestStep {l : Launch} {D : va_G} {cI cJ cQ : ClassId} {ad : Nat → Nat} {ra : Nat → Nat → Nat} {adK adV tK : Nat → Nat} {L : Nat} {p0 : Int64} {p1 : Int32} {σ σ' : CS} {r : Int64} (h : FX10_digestStep L p0 p1 σ = some (r, σ')) : gMet l yX10_digestStep qX10_digestStep rmX10_digestStep 0 0 D vwCl [(cI, .int), (cJ, .long), (cQ, .array .long)] (cKS adK adV tK) [.ref (ad 0), .long p0, .int p1] (CW cI cJ cQ ad ra σ) (CW cI cJ cQ ad ra σ') (some (.long r)) := by
  refine gMet.of (cc := cX10_digestStep) (maxL := 7) (ret := (some .long)) (by decide) rfl (Nat.le_of_ble_eq_true rfl) ?_
  intro p e s m args below meth c S hr hlk hnm hK hKS hA hB ls hl
  have hl : lv_has ls 7 [(0, .ref (ad 0)), (1, .long p0), (3, .int p1)] := hl
  replace S : CallFix p m c cX10_digestStep 7 s args (_ :: wsL_law) RX10 := S
  rw [FX10_digestStep] at h
  have P23 : ∀  (n : Nat), ∀ (x3 : Int32) (x4 : Int64) (x6 : Int32) (σ1 : CS) (H : Heap) (locs : List Loc) (ls : Array Slot), FX10_digestStep_23 L n x3 x4 x6 σ1 = some (r, σ') → gB D vwCl (va_A (CW cI cJ cQ ad ra σ) s.heap.size) s.heap (CW cI cJ cQ ad ra σ1) [] H locs → lv_has ls 7 [(0, .ref (ad 0)), (3, .int x3), (4, .long x4), (6, .int x6)] → W p l e rmX10_digestStep s m args below meth c H locs 0 0 (MQ below (gQ D vwCl (CW cI cJ cQ ad ra σ) (CW cI cJ cQ ad ra σ') (some (.long r)) s.heap.size) args s 0 0 (va_A (CW cI cJ cQ ad ra σ) s.heap.size)) (F0 m 23 ls []) := by
    intro n
    induction n with
    | zero => intro x3 x4 x6 σ1 H locs ls h; simp only [FX10_digestStep_23] at h; cases h
    | succ n ih =>
      intro x3 x4 x6 σ1 H locs ls h hB hl
      rw [FX10_digestStep_23] at h
      refine lv_iload S.1 S.2.1 dX10_digestStep_23 (lv_at hl 3 rfl) ?_
      refine lv_aload_n S.1 S.2.1 dX10_digestStep_25 rfl (lv_at hl 0 rfl) ?_
      refine lv_iconst (v := (0 : Int32)) S.1 S.2.1 dX10_digestStep_26 (by decide) ?_
      obtain ⟨r_1, σ_1, e_1, h⟩ := b2s h
      refine cCallI S hK cKSc hKS hA (kX10_howMany e_1) (cwX10_140 S.2.2.2.2 (rm := rmX10_howMany) rfl rfl ⟨Nat.le_of_ble_eq_true rfl, Nat.le_of_ble_eq_true rfl⟩) hB 0 rfl rfl rfl hl.1 rfl (lv_room (Nat.le_of_ble_eq_true rfl)) dX10_digestStep_27 ⟨Nat.zero_le _, Nat.zero_le _⟩ (fun H locs hB => ?_)
      refine lv_icmp_ge (tgt := 61) S.1 S.2.1 dX10_digestStep_30 (by decide) (fun c_2 => ?_) (fun c_2 => ?_)
      · replace h := (if_pos c_2).symm.trans h
        refine lv_aload_n S.1 S.2.1 dX10_digestStep_61 rfl (lv_at hl 0 rfl) ?_
        refine lv_lload S.1 S.2.1 dX10_digestStep_62 (lv_at hl 2 rfl) ?_
        refine lv_iconst (v := (2 : Int32)) S.1 S.2.1 dX10_digestStep_64 (by decide) ?_
        refine lv_iload_n S.1 S.2.1 dX10_digestStep_65 rfl (lv_at hl 1 rfl) ?_
        obtain ⟨r_3, σ_3, e_3, h⟩ := b2s h
        refine cCallL S hK cKSc hKS hA (kX10_digestSort e_3) (cwX10_280 S.2.2.2.2 (rm := rmX10_digestSort) rfl rfl ⟨Nat.le_of_ble_eq_true rfl, Nat.le_of_ble_eq_true rfl⟩) hB 0 rfl rfl rfl hl.1 rfl (lv_room (Nat.le_of_ble_eq_true rfl)) dX10_digestStep_66 ⟨Nat.zero_le _, Nat.zero_le _⟩ (fun H locs hB => ?_)
        refine lv_lstore (lv' := [(4, .long r_3), (0, .ref (ad 0)), (3, .int x3), (6, .int x6)]) S.1 S.2.1 dX10_digestStep_69 hl (by decide) rfl (fun ls hl => ?_)
        refine lv_aload_n S.1 S.2.1 dX10_digestStep_71 rfl (lv_at hl 1 rfl) ?_
        refine lv_lload S.1 S.2.1 dX10_digestStep_72 (lv_at hl 0 rfl) ?_
        refine lv_iconst (v := (1 : Int32)) S.1 S.2.1 dX10_digestStep_74 (by decide) ?_
        refine lv_iload_n S.1 S.2.1 dX10_digestStep_75 rfl (lv_at hl 2 rfl) ?_
        obtain ⟨r_4, σ_4, e_4, h⟩ := b2s h
        refine cCallL S hK cKSc hKS hA (kX10_digestSort e_4) (cwX10_280 S.2.2.2.2 (rm := rmX10_digestSort) rfl rfl ⟨Nat.le_of_ble_eq_true rfl, Nat.le_of_ble_eq_true rfl⟩) hB 0 rfl rfl rfl hl.1 rfl (lv_room (Nat.le_of_ble_eq_true rfl)) dX10_digestStep_76 ⟨Nat.zero_le _, Nat.zero_le _⟩ (fun H locs hB => ?_)
        refine lv_lstore (lv' := [(4, .long r_4), (0, .ref (ad 0)), (3, .int x3), (6, .int x6)]) S.1 S.2.1 dX10_digestStep_79 hl (by decide) rfl (fun ls hl => ?_)
        refine lv_aload_n S.1 S.2.1 dX10_digestStep_81 rfl (lv_at hl 1 rfl) ?_
        refine lv_lload S.1 S.2.1 dX10_digestStep_82 (lv_at hl 0 rfl) ?_
        refine lv_iconst (v := (3 : Int32)) S.1 S.2.1 dX10_digestStep_84 (by decide) ?_
        refine lv_iload_n S.1 S.2.1 dX10_digestStep_85 rfl (lv_at hl 2 rfl) ?_
        obtain ⟨r_5, σ_5, e_5, h⟩ := b2s h
        refine cCallL S hK cKSc hKS hA (kX10_digestSort e_5) (cwX10_280 S.2.2.2.2 (rm := rmX10_digestSort) rfl rfl ⟨Nat.le_of_ble_eq_true rfl, Nat.le_of_ble_eq_true rfl⟩) hB 0 rfl rfl rfl hl.1 rfl (lv_room (Nat.le_of_ble_eq_true rfl)) dX10_digestStep_86 ⟨Nat.zero_le _, Nat.zero_le _⟩ (fun H locs hB => ?_)
        cases h
        exact gRetL S.1 S.2.1 hr hlk hB dX10_digestStep_89
      · replace h := (if_neg c_2).symm.trans h
        refine lv_lload S.1 S.2.1 dX10_digestStep_33 (lv_at hl 2 rfl) ?_
        refine lv_ldc2 (v := 31) S.1 S.2.1 S.2.2.2.1 (S.2.2.2.2 _ (List.mem_cons_of_mem _ wk_X10_274)) dX10_digestStep_35 ?_
        refine lv_lmul S.1 S.2.1 dX10_digestStep_38 ?_
        refine lv_aload_n S.1 S.2.1 dX10_digestStep_39 rfl (lv_at hl 0 rfl) ?_
        refine tg_0_5 S hK hB (S.2.2.2.2 _ (List.mem_cons_of_mem _ wf_X10_51)) dX10_digestStep_40 ?_
        refine tgN_44_1 S hK hB (nF hKS 27 rfl) dX10_digestStep_43 ?_
        refine lv_iload S.1 S.2.1 dX10_digestStep_46 (lv_at hl 3 rfl) ?_
        refine lv_iload_n S.1 S.2.1 dX10_digestStep_48 rfl (lv_at hl 1 rfl) ?_
        refine lg_47 (r := (getT 8 (σ_1.2.2.2.2 0) x6 x3)) S hK cKSc hKS hA hB rfl (cwX10_196 S.2.2.2.2 (rm := { frames := 0, cells := 0, slots := 0, locals := 0 }) rfl rfl ⟨Nat.le_of_ble_eq_true rfl, Nat.le_of_ble_eq_true rfl⟩) hl.1 (lv_room (Nat.le_of_ble_eq_true rfl)) dX10_digestStep_49 ⟨Nat.zero_le _, Nat.zero_le _⟩ (fun H locs hB => ?_)
        refine lv_ladd S.1 S.2.1 dX10_digestStep_52 ?_
        refine lv_lstore (lv' := [(4, .long ((x4 * (31 : Int64)) + (getT 8 (σ_1.2.2.2.2 0) x6 x3))), (0, .ref (ad 0)), (3, .int x3), (6, .int x6)]) S.1 S.2.1 dX10_digestStep_53 hl (by decide) rfl (fun ls hl => ?_)
        refine lv_iinc (v := (x6 + (1 : Int32))) (lv' := [(6, .int (x6 + (1 : Int32))), (4, .long ((x4 * (31 : Int64)) + (getT 8 (σ_1.2.2.2.2 0) x6 x3))), (0, .ref (ad 0)), (3, .int x3)]) S.1 S.2.1 dX10_digestStep_55 hl (k := 3) rfl rfl (by decide) rfl (fun ls hl => ?_)
        refine lv_goto (tgt := 23) S.1 S.2.1 dX10_digestStep_58 (by decide) ?_
        exact ih _ _ _ _ _ _ _ h hB (lv_sub hl [2, 3, 1, 0] rfl)
  refine lv_lload_n S.1 S.2.1 dX10_digestStep_0 rfl (lv_at hl 1 rfl) ?_
  refine lv_ldc2 (v := 31) S.1 S.2.1 S.2.2.2.1 (S.2.2.2.2 _ (List.mem_cons_of_mem _ wk_X10_274)) dX10_digestStep_1 ?_
  refine lv_lmul S.1 S.2.1 dX10_digestStep_4 ?_
  refine lv_aload_n S.1 S.2.1 dX10_digestStep_5 rfl (lv_at hl 0 rfl) ?_
  refine tg_0_5 S hK hB (S.2.2.2.2 _ (List.mem_cons_of_mem _ wf_X10_51)) dX10_digestStep_6 ?_
  refine tgN_44_0 S hK hB (nF hKS 26 rfl) dX10_digestStep_9 ?_
  refine lv_iload_n S.1 S.2.1 dX10_digestStep_12 rfl (lv_at hl 2 rfl) ?_
  refine lg_45 (r := (getI 120 (σ.2.2.1 46) p1)) S hK cKSc hKS hA hB rfl (cwX10_205 S.2.2.2.2 (rm := { frames := 0, cells := 0, slots := 0, locals := 0 }) rfl rfl ⟨Nat.le_of_ble_eq_true rfl, Nat.le_of_ble_eq_true rfl⟩) hl.1 (lv_room (Nat.le_of_ble_eq_true rfl)) dX10_digestStep_13 ⟨Nat.zero_le _, Nat.zero_le _⟩ (fun H locs hB => ?_)
  refine lv_i2l (v := ((getI 120 (σ.2.2.1 46) p1).toInt64)) S.1 S.2.1 dX10_digestStep_16 rfl ?_
  refine lv_ladd S.1 S.2.1 dX10_digestStep_17 ?_
  refine lv_lstore (lv' := [(4, .long ((p0 * (31 : Int64)) + ((getI 120 (σ.2.2.1 46) p1).toInt64))), (0, .ref (ad 0)), (1, .long p0), (3, .int p1)]) S.1 S.2.1 dX10_digestStep_18 hl (by decide) rfl (fun ls hl => ?_)
  refine lv_iconst (v := (0 : Int32)) S.1 S.2.1 dX10_digestStep_20 (by decide) ?_
  refine lv_istore (lv' := [(6, .int (0 : Int32)), (4, .long ((p0 * (31 : Int64)) + ((getI 120 (σ.2.2.1 46) p1).toInt64))), (0, .ref (ad 0)), (1, .long p0), (3, .int p1)]) S.1 S.2.1 dX10_digestStep_21 hl (by decide) rfl (fun ls hl => ?_)
  exact P23  L _ _ _ _ _ _ _ h hB (lv_sub hl [2, 4, 1, 0] rfl)
def FX10_compile_87 (L : Nat)   (σ1 : CS) : Option (Int32 × CS) :=
    b2 (FX10_begin L σ1) fun (_ : Unit) σ_6 =>
    some (σ_6.1 4307, σ_6)
def FX10_compile (L : Nat)  (σ : CS) : Option (Int32 × CS) :=
  b2 (FX5_clear L σ) fun (_ : Unit) σ_1 =>
  b2 (FX9_read L (tI σ_1 10 (0 : Int32))) fun (_ : Unit) σ_2 =>
  b2 (FX4_readProgram L σ_2) fun (_ : Unit) σ_3 =>
  if (σ_3.1 4307) = 0 then
    FX10_compile_87 L (tI (tI (tI (tI σ_3 101 (0 : Int32)) 9 (σ_3.1 4308)) 2808 (1 : Int32)) 2809 (σ_3.1 1307))
  else
    b2 (FX5_clear L (tI (tI σ_3 101 (0 : Int32)) 9 (σ_3.1 4308))) fun (_ : Unit) σ_5 =>
    FX10_compile_87 L σ_5
abbrev rmX10_compile : Room := { frames := 223, cells := 0, slots := 0, locals := 8471 }
set_option maxRecDepth 100000 in
set_option maxHeartbeats 4000000 in
theorem kX10_compile {l : Launch} {D : va_G} {cI cJ cQ : ClassId} {ad : Nat → Nat} {ra : Nat → Nat → Nat} {adK adV tK : Nat → Nat} {L : Nat}  {σ σ' : CS} {r : Int32} (h : FX10_compile L  σ = some (r, σ')) : gMet l yX10_compile qX10_compile rmX10_compile 0 0 D vwCl [(cI, .int), (cJ, .long), (cQ, .array .long)] (cKS adK adV tK) [.ref (ad 0)] (CW cI cJ cQ ad ra σ) (CW cI cJ cQ ad ra σ') (some (.int r)) := by
  refine gMet.of (cc := cX10_compile) (maxL := 1) (ret := (some .int)) (by decide) rfl (Nat.le_of_ble_eq_true rfl) ?_
  intro p e s m args below meth c S hr hlk hnm hK hKS hA hB ls hl
  have hl : lv_has ls 1 [(0, .ref (ad 0))] := hl
  replace S : CallFix p m c cX10_compile 1 s args (_ :: wsL_law) RX10 := S
  rw [FX10_compile] at h
  have P87 : ∀  (σ1 : CS) (H : Heap) (locs : List Loc) (ls : Array Slot), FX10_compile_87 L  σ1 = some (r, σ') → gB D vwCl (va_A (CW cI cJ cQ ad ra σ) s.heap.size) s.heap (CW cI cJ cQ ad ra σ1) [] H locs → lv_has ls 1 [(0, .ref (ad 0))] → W p l e rmX10_compile s m args below meth c H locs 0 0 (MQ below (gQ D vwCl (CW cI cJ cQ ad ra σ) (CW cI cJ cQ ad ra σ') (some (.int r)) s.heap.size) args s 0 0 (va_A (CW cI cJ cQ ad ra σ) s.heap.size)) (F0 m 87 ls []) := by
    intro   σ1 H locs ls h hB hl
    rw [FX10_compile_87] at h
    refine lv_aload_n S.1 S.2.1 dX10_compile_87 rfl (lv_at hl 0 rfl) ?_
    obtain ⟨_, σ_6, e_6, h⟩ := b2s h
    refine cCallV S hK cKSc hKS hA (kX10_begin e_6) (cwX10_132 S.2.2.2.2 (rm := rmX10_begin) rfl rfl ⟨Nat.le_of_ble_eq_true rfl, Nat.le_of_ble_eq_true rfl⟩) hB 0 rfl rfl rfl hl.1 rfl (lv_room (Nat.le_of_ble_eq_true rfl)) dX10_compile_88 ⟨Nat.zero_le _, Nat.zero_le _⟩ (fun H locs hB => ?_)
    refine lv_aload_n S.1 S.2.1 dX10_compile_91 rfl (lv_at hl 0 rfl) ?_
    refine tg_0_4 S hK hB (S.2.2.2.2 _ (List.mem_cons_of_mem _ wf_X10_44)) dX10_compile_92 ?_
    refine tgN_43_7 S hK hB (nF hKS 23 rfl) rfl dX10_compile_95 ?_
    cases h
    exact gRetI S.1 S.2.1 hr hlk hB dX10_compile_98
  refine lv_aload_n S.1 S.2.1 dX10_compile_0 rfl (lv_at hl 0 rfl) ?_
  refine tg_0_3 S hK hB (S.2.2.2.2 _ (List.mem_cons_of_mem _ wf_X10_35)) dX10_compile_1 ?_
  obtain ⟨_, σ_1, e_1, h⟩ := b2s h
  refine cCallV S hK cKSc hKS hA (kX5_clear e_1) (cwX10_104 S.2.2.2.2 (rm := rmX5_clear) rfl rfl ⟨Nat.le_of_ble_eq_true rfl, Nat.le_of_ble_eq_true rfl⟩) hB 28 rfl rfl rfl hl.1 rfl (lv_room (Nat.le_of_ble_eq_true rfl)) dX10_compile_4 ⟨Nat.zero_le _, Nat.zero_le _⟩ (fun H locs hB => ?_)
  refine lv_aload_n S.1 S.2.1 dX10_compile_7 rfl (lv_at hl 0 rfl) ?_
  refine lv_iconst (v := (0 : Int32)) S.1 S.2.1 dX10_compile_8 (by decide) ?_
  refine tp_0_10 S hK hB (S.2.2.2.2 _ (List.mem_cons_of_mem _ wf_X10_107)) rfl rfl dX10_compile_9 (fun H locs hB => ?_)
  refine lv_aload_n S.1 S.2.1 dX10_compile_12 rfl (lv_at hl 0 rfl) ?_
  refine tg_0_1 S hK hB (S.2.2.2.2 _ (List.mem_cons_of_mem _ wf_X10_21)) dX10_compile_13 ?_
  obtain ⟨_, σ_2, e_2, h⟩ := b2s h
  refine cCallV S hK cKSc hKS hA (kX9_read e_2) (cwX10_111 S.2.2.2.2 (rm := rmX9_read) rfl rfl ⟨Nat.le_of_ble_eq_true rfl, Nat.le_of_ble_eq_true rfl⟩) hB 4 rfl rfl rfl hl.1 rfl (lv_room (Nat.le_of_ble_eq_true rfl)) dX10_compile_16 ⟨Nat.zero_le _, Nat.zero_le _⟩ (fun H locs hB => ?_)
  refine lv_aload_n S.1 S.2.1 dX10_compile_19 rfl (lv_at hl 0 rfl) ?_
  refine tg_0_4 S hK hB (S.2.2.2.2 _ (List.mem_cons_of_mem _ wf_X10_44)) dX10_compile_20 ?_
  obtain ⟨_, σ_3, e_3, h⟩ := b2s h
  refine cCallV S hK cKSc hKS hA (kX4_readProgram e_3) (cwX10_114 S.2.2.2.2 (rm := rmX4_readProgram) rfl rfl ⟨Nat.le_of_ble_eq_true rfl, Nat.le_of_ble_eq_true rfl⟩) hB 43 rfl rfl rfl hl.1 rfl (lv_room (Nat.le_of_ble_eq_true rfl)) dX10_compile_23 ⟨Nat.zero_le _, Nat.zero_le _⟩ (fun H locs hB => ?_)
  refine lv_aload_n S.1 S.2.1 dX10_compile_26 rfl (lv_at hl 0 rfl) ?_
  refine tg_0_0 S hK hB (S.2.2.2.2 _ (List.mem_cons_of_mem _ wf_X10_10)) dX10_compile_27 ?_
  refine lv_iconst (v := (0 : Int32)) S.1 S.2.1 dX10_compile_30 (by decide) ?_
  refine tpN_1_1 S hK hB (nF hKS 0 rfl) dX10_compile_31 (fun H locs hB => ?_)
  refine lv_aload_n S.1 S.2.1 dX10_compile_34 rfl (lv_at hl 0 rfl) ?_
  refine lv_aload_n S.1 S.2.1 dX10_compile_35 rfl (lv_at hl 0 rfl) ?_
  refine tg_0_4 S hK hB (S.2.2.2.2 _ (List.mem_cons_of_mem _ wf_X10_44)) dX10_compile_36 ?_
  refine tgN_43_8 (v := (σ_3.1 4308)) S hK hB (nF hKS 24 rfl) rfl dX10_compile_39 ?_
  refine tp_0_9 S hK hB (S.2.2.2.2 _ (List.mem_cons_of_mem _ wf_X10_76)) dX10_compile_42 (fun H locs hB => ?_)
  refine lv_aload_n S.1 S.2.1 dX10_compile_45 rfl (lv_at hl 0 rfl) ?_
  refine tg_0_4 S hK hB (S.2.2.2.2 _ (List.mem_cons_of_mem _ wf_X10_44)) dX10_compile_46 ?_
  refine tgN_43_7 (v := (σ_3.1 4307)) S hK hB (nF hKS 23 rfl) rfl dX10_compile_49 ?_
  refine lv_if_ne (tgt := 80) S.1 S.2.1 dX10_compile_52 (by decide) (fun c_4 => ?_) (fun c_4 => ?_)
  · replace h := (if_neg c_4).symm.trans h
    refine lv_aload_n S.1 S.2.1 dX10_compile_80 rfl (lv_at hl 0 rfl) ?_
    refine tg_0_3 S hK hB (S.2.2.2.2 _ (List.mem_cons_of_mem _ wf_X10_35)) dX10_compile_81 ?_
    obtain ⟨_, σ_5, e_5, h⟩ := b2s h
    refine cCallV S hK cKSc hKS hA (kX5_clear e_5) (cwX10_104 S.2.2.2.2 (rm := rmX5_clear) rfl rfl ⟨Nat.le_of_ble_eq_true rfl, Nat.le_of_ble_eq_true rfl⟩) hB 28 rfl rfl rfl hl.1 rfl (lv_room (Nat.le_of_ble_eq_true rfl)) dX10_compile_84 ⟨Nat.zero_le _, Nat.zero_le _⟩ (fun H locs hB => ?_)
    exact P87  _ _ _ _ h hB hl
  · replace h := (if_pos c_4).symm.trans h
    refine lv_aload_n S.1 S.2.1 dX10_compile_55 rfl (lv_at hl 0 rfl) ?_
    refine tg_0_3 S hK hB (S.2.2.2.2 _ (List.mem_cons_of_mem _ wf_X10_35)) dX10_compile_56 ?_
    refine lv_iconst (v := (1 : Int32)) S.1 S.2.1 dX10_compile_59 (by decide) ?_
    refine tpN_28_8 S hK hB (nF hKS 21 rfl) rfl rfl dX10_compile_60 (fun H locs hB => ?_)
    refine lv_aload_n S.1 S.2.1 dX10_compile_63 rfl (lv_at hl 0 rfl) ?_
    refine tg_0_3 S hK hB (S.2.2.2.2 _ (List.mem_cons_of_mem _ wf_X10_35)) dX10_compile_64 ?_
    refine lv_aload_n S.1 S.2.1 dX10_compile_67 rfl (lv_at hl 0 rfl) ?_
    refine tg_0_2 S hK hB (S.2.2.2.2 _ (List.mem_cons_of_mem _ wf_X10_28)) dX10_compile_68 ?_
    refine tgN_13_7 (v := (σ_3.1 1307)) S hK hB (nF hKS 13 rfl) rfl dX10_compile_71 ?_
    refine tpN_28_9 S hK hB (nF hKS 22 rfl) dX10_compile_74 (fun H locs hB => ?_)
    refine lv_goto (tgt := 87) S.1 S.2.1 dX10_compile_77 (by decide) ?_
    exact P87  _ _ _ _ h hB hl
def FX10_errorAt  (σ : CS) : Option (Int32 × CS) :=
  some (σ.1 9, σ)
abbrev rmX10_errorAt : Room := { frames := 0, cells := 0, slots := 0, locals := 0 }
def FX10_keep (L : Nat)  (σ : CS) : Option (Int32 × CS) :=
  b2 (FX0_copy L σ) fun (_ : Unit) σ_1 =>
  some (σ_1.1 4902, σ_1)
abbrev rmX10_keep : Room := { frames := 2, cells := 0, slots := 0, locals := 48 }
set_option maxRecDepth 100000 in
set_option maxHeartbeats 4000000 in
theorem kX10_keep {l : Launch} {D : va_G} {cI cJ cQ : ClassId} {ad : Nat → Nat} {ra : Nat → Nat → Nat} {adK adV tK : Nat → Nat} {L : Nat}  {σ σ' : CS} {r : Int32} (h : FX10_keep L  σ = some (r, σ')) : gMet l yX10_keep qX10_keep rmX10_keep 0 0 D vwCl [(cI, .int), (cJ, .long), (cQ, .array .long)] (cKS adK adV tK) [.ref (ad 0)] (CW cI cJ cQ ad ra σ) (CW cI cJ cQ ad ra σ') (some (.int r)) := by
  refine gMet.of (cc := cX10_keep) (maxL := 1) (ret := (some .int)) (by decide) rfl (Nat.le_of_ble_eq_true rfl) ?_
  intro p e s m args below meth c S hr hlk hnm hK hKS hA hB ls hl
  have hl : lv_has ls 1 [(0, .ref (ad 0))] := hl
  replace S : CallFix p m c cX10_keep 1 s args (_ :: wsL_law) RX10 := S
  rw [FX10_keep] at h
  refine lv_aload_n S.1 S.2.1 dX10_keep_0 rfl (lv_at hl 0 rfl) ?_
  refine tg_0_6 S hK hB (S.2.2.2.2 _ (List.mem_cons_of_mem _ wf_X10_55)) dX10_keep_1 ?_
  refine lv_aload_n S.1 S.2.1 dX10_keep_4 rfl (lv_at hl 0 rfl) ?_
  refine tg_0_5 S hK hB (S.2.2.2.2 _ (List.mem_cons_of_mem _ wf_X10_51)) dX10_keep_5 ?_
  obtain ⟨_, σ_1, e_1, h⟩ := b2s h
  refine cCallV S hK cKSc hKS hA (kX0_copy e_1) (cwX10_179 S.2.2.2.2 (rm := rmX0_copy) rfl rfl ⟨Nat.le_of_ble_eq_true rfl, Nat.le_of_ble_eq_true rfl⟩) hB 49 rfl rfl rfl hl.1 rfl (lv_room (Nat.le_of_ble_eq_true rfl)) dX10_keep_8 ⟨Nat.zero_le _, Nat.zero_le _⟩ (fun H locs hB => ?_)
  refine lv_aload_n S.1 S.2.1 dX10_keep_11 rfl (lv_at hl 0 rfl) ?_
  refine tg_0_6 S hK hB (S.2.2.2.2 _ (List.mem_cons_of_mem _ wf_X10_55)) dX10_keep_12 ?_
  refine tgN_49_2 S hK hB (nF hKS 29 rfl) rfl dX10_keep_15 ?_
  cases h
  exact gRetI S.1 S.2.1 hr hlk hB dX10_keep_18
def FX10_ask_101 (L : Nat)  : Nat → Int32 → CS → Option (Int32 × CS)
  | 0, _, _ => none
  | n+1, x3, σ1 =>
    if (σ1.1 4402) ≤ x3 then
      some ((0 : Int32), σ1)
    else
      b2 (FX6_reckon L (σ1.1 12) (σ1.1 13) x3 σ1) fun (_ : Unit) σ_6 =>
      (FX10_ask_101 L n) (x3 + (1 : Int32)) σ_6
def FX10_ask_19 (L : Nat)  (y0 : Int32) (σ1 : CS) : Option (Int32 × CS) :=
    b2 (FX9_read L σ1) fun (_ : Unit) σ_2 =>
    b2 (FX4_readQuestion L y0 σ_2) fun r_3 σ_3 =>
    if (σ_3.1 4307) = 0 then
      FX10_ask_101 L L (0 : Int32) (tI (tI (tI (tI (tI (tI σ_3 101 (0 : Int32)) 9 (σ_3.1 4308)) 10 (1 : Int32)) 11 r_3) 12 y0) 13 (σ_3.1 1307))
    else
      some (σ_3.1 4307, (tI (tI σ_3 101 (0 : Int32)) 9 (σ_3.1 4308)))
def FX10_ask (L : Nat)  (σ : CS) : Option (Int32 × CS) :=
  if (σ.1 12) = (400 : Int32) then
    FX10_ask_19 L (800 : Int32) σ
  else
    FX10_ask_19 L (400 : Int32) σ
abbrev rmX10_ask : Room := { frames := 222, cells := 0, slots := 0, locals := 8447 }
set_option maxRecDepth 100000 in
set_option maxHeartbeats 4000000 in
theorem kX10_ask {l : Launch} {D : va_G} {cI cJ cQ : ClassId} {ad : Nat → Nat} {ra : Nat → Nat → Nat} {adK adV tK : Nat → Nat} {L : Nat}  {σ σ' : CS} {r : Int32} (h : FX10_ask L  σ = some (r, σ')) : gMet l yX10_ask qX10_ask rmX10_ask 0 0 D vwCl [(cI, .int), (cJ, .long), (cQ, .array .long)] (cKS adK adV tK) [.ref (ad 0)] (CW cI cJ cQ ad ra σ) (CW cI cJ cQ ad ra σ') (some (.int r)) := by
  refine gMet.of (cc := cX10_ask) (maxL := 4) (ret := (some .int)) (by decide) rfl (Nat.le_of_ble_eq_true rfl) ?_
  intro p e s m args below meth c S hr hlk hnm hK hKS hA hB ls hl
  have hl : lv_has ls 4 [(0, .ref (ad 0))] := hl
  replace S : CallFix p m c cX10_ask 4 s args (_ :: wsL_law) RX10 := S
  rw [FX10_ask] at h
  have P101 : ∀  (n : Nat), ∀ (x3 : Int32) (σ1 : CS) (H : Heap) (locs : List Loc) (ls : Array Slot), FX10_ask_101 L n x3 σ1 = some (r, σ') → gB D vwCl (va_A (CW cI cJ cQ ad ra σ) s.heap.size) s.heap (CW cI cJ cQ ad ra σ1) [] H locs → lv_has ls 4 [(0, .ref (ad 0)), (3, .int x3)] → W p l e rmX10_ask s m args below meth c H locs 0 0 (MQ below (gQ D vwCl (CW cI cJ cQ ad ra σ) (CW cI cJ cQ ad ra σ') (some (.int r)) s.heap.size) args s 0 0 (va_A (CW cI cJ cQ ad ra σ) s.heap.size)) (F0 m 101 ls []) := by
    intro n
    induction n with
    | zero => intro x3 σ1 H locs ls h; simp only [FX10_ask_101] at h; cases h
    | succ n ih =>
      intro x3 σ1 H locs ls h hB hl
      rw [FX10_ask_101] at h
      refine lv_iload_n S.1 S.2.1 dX10_ask_101 rfl (lv_at hl 1 rfl) ?_
      refine lv_aload_n S.1 S.2.1 dX10_ask_102 rfl (lv_at hl 0 rfl) ?_
      refine tg_0_5 S hK hB (S.2.2.2.2 _ (List.mem_cons_of_mem _ wf_X10_51)) dX10_ask_103 ?_
      refine tgN_44_2 S hK hB (nF hKS 29 rfl) rfl dX10_ask_106 ?_
      refine lv_icmp_ge (tgt := 134) S.1 S.2.1 dX10_ask_109 (by decide) (fun c_5 => ?_) (fun c_5 => ?_)
      · replace h := (if_pos c_5).symm.trans h
        refine lv_iconst (v := (0 : Int32)) S.1 S.2.1 dX10_ask_134 (by decide) ?_
        cases h
        exact gRetI S.1 S.2.1 hr hlk hB dX10_ask_135
      · replace h := (if_neg c_5).symm.trans h
        refine lv_aload_n S.1 S.2.1 dX10_ask_112 rfl (lv_at hl 0 rfl) ?_
        refine tg_0_7 S hK hB (S.2.2.2.2 _ (List.mem_cons_of_mem _ wf_X10_63)) dX10_ask_113 ?_
        refine lv_aload_n S.1 S.2.1 dX10_ask_116 rfl (lv_at hl 0 rfl) ?_
        refine tg_0_12 S hK hB (S.2.2.2.2 _ (List.mem_cons_of_mem _ wf_X10_80)) rfl dX10_ask_117 ?_
        refine lv_aload_n S.1 S.2.1 dX10_ask_120 rfl (lv_at hl 0 rfl) ?_
        refine tg_0_13 S hK hB (S.2.2.2.2 _ (List.mem_cons_of_mem _ wf_X10_83)) rfl dX10_ask_121 ?_
        refine lv_iload_n S.1 S.2.1 dX10_ask_124 rfl (lv_at hl 1 rfl) ?_
        obtain ⟨_, σ_6, e_6, h⟩ := b2s h
        refine cCallV S hK cKSc hKS hA (kX6_reckon e_6) (cwX10_263 S.2.2.2.2 (rm := rmX6_reckon) rfl rfl ⟨Nat.le_of_ble_eq_true rfl, Nat.le_of_ble_eq_true rfl⟩) hB 54 rfl rfl rfl hl.1 rfl (lv_room (Nat.le_of_ble_eq_true rfl)) dX10_ask_125 ⟨Nat.zero_le _, Nat.zero_le _⟩ (fun H locs hB => ?_)
        refine lv_iinc (v := (x3 + (1 : Int32))) (lv' := [(3, .int (x3 + (1 : Int32))), (0, .ref (ad 0))]) S.1 S.2.1 dX10_ask_128 hl (k := 1) rfl rfl (by decide) rfl (fun ls hl => ?_)
        refine lv_goto (tgt := 101) S.1 S.2.1 dX10_ask_131 (by decide) ?_
        exact ih _ _ _ _ _ h hB (lv_sub hl [1, 0] rfl)
  have P19 : ∀ (y0 : Int32) (σ1 : CS) (H : Heap) (locs : List Loc) (ls : Array Slot), FX10_ask_19 L y0 σ1 = some (r, σ') → gB D vwCl (va_A (CW cI cJ cQ ad ra σ) s.heap.size) s.heap (CW cI cJ cQ ad ra σ1) [] H locs → lv_has ls 4 [(0, .ref (ad 0))] → W p l e rmX10_ask s m args below meth c H locs 0 0 (MQ below (gQ D vwCl (CW cI cJ cQ ad ra σ) (CW cI cJ cQ ad ra σ') (some (.int r)) s.heap.size) args s 0 0 (va_A (CW cI cJ cQ ad ra σ) s.heap.size)) (F0 m 19 ls [.int y0]) := by
    intro  y0 σ1 H locs ls h hB hl
    rw [FX10_ask_19] at h
    refine lv_istore_n (lv' := [(1, .int y0), (0, .ref (ad 0))]) S.1 S.2.1 dX10_ask_19 rfl hl (by decide) rfl (fun ls hl => ?_)
    refine lv_aload_n S.1 S.2.1 dX10_ask_20 rfl (lv_at hl 1 rfl) ?_
    refine tg_0_1 S hK hB (S.2.2.2.2 _ (List.mem_cons_of_mem _ wf_X10_21)) dX10_ask_21 ?_
    obtain ⟨_, σ_2, e_2, h⟩ := b2s h
    refine cCallV S hK cKSc hKS hA (kX9_read e_2) (cwX10_111 S.2.2.2.2 (rm := rmX9_read) rfl rfl ⟨Nat.le_of_ble_eq_true rfl, Nat.le_of_ble_eq_true rfl⟩) hB 4 rfl rfl rfl hl.1 rfl (lv_room (Nat.le_of_ble_eq_true rfl)) dX10_ask_24 ⟨Nat.zero_le _, Nat.zero_le _⟩ (fun H locs hB => ?_)
    refine lv_aload_n S.1 S.2.1 dX10_ask_27 rfl (lv_at hl 1 rfl) ?_
    refine tg_0_4 S hK hB (S.2.2.2.2 _ (List.mem_cons_of_mem _ wf_X10_44)) dX10_ask_28 ?_
    refine lv_iload_n S.1 S.2.1 dX10_ask_31 rfl (lv_at hl 0 rfl) ?_
    obtain ⟨r_3, σ_3, e_3, h⟩ := b2s h
    refine cCallI S hK cKSc hKS hA (kX4_readQuestion e_3) (cwX10_257 S.2.2.2.2 (rm := rmX4_readQuestion) rfl rfl ⟨Nat.le_of_ble_eq_true rfl, Nat.le_of_ble_eq_true rfl⟩) hB 43 rfl rfl rfl hl.1 rfl (lv_room (Nat.le_of_ble_eq_true rfl)) dX10_ask_32 ⟨Nat.zero_le _, Nat.zero_le _⟩ (fun H locs hB => ?_)
    refine lv_istore_n (lv' := [(2, .int r_3), (1, .int y0), (0, .ref (ad 0))]) S.1 S.2.1 dX10_ask_35 rfl hl (by decide) rfl (fun ls hl => ?_)
    refine lv_aload_n S.1 S.2.1 dX10_ask_36 rfl (lv_at hl 2 rfl) ?_
    refine tg_0_0 S hK hB (S.2.2.2.2 _ (List.mem_cons_of_mem _ wf_X10_10)) dX10_ask_37 ?_
    refine lv_iconst (v := (0 : Int32)) S.1 S.2.1 dX10_ask_40 (by decide) ?_
    refine tpN_1_1 S hK hB (nF hKS 0 rfl) dX10_ask_41 (fun H locs hB => ?_)
    refine lv_aload_n S.1 S.2.1 dX10_ask_44 rfl (lv_at hl 2 rfl) ?_
    refine lv_aload_n S.1 S.2.1 dX10_ask_45 rfl (lv_at hl 2 rfl) ?_
    refine tg_0_4 S hK hB (S.2.2.2.2 _ (List.mem_cons_of_mem _ wf_X10_44)) dX10_ask_46 ?_
    refine tgN_43_8 (v := (σ_3.1 4308)) S hK hB (nF hKS 24 rfl) rfl dX10_ask_49 ?_
    refine tp_0_9 S hK hB (S.2.2.2.2 _ (List.mem_cons_of_mem _ wf_X10_76)) dX10_ask_52 (fun H locs hB => ?_)
    refine lv_aload_n S.1 S.2.1 dX10_ask_55 rfl (lv_at hl 2 rfl) ?_
    refine tg_0_4 S hK hB (S.2.2.2.2 _ (List.mem_cons_of_mem _ wf_X10_44)) dX10_ask_56 ?_
    refine tgN_43_7 (v := (σ_3.1 4307)) S hK hB (nF hKS 23 rfl) rfl dX10_ask_59 ?_
    refine lv_if_eq (tgt := 73) S.1 S.2.1 dX10_ask_62 (by decide) (fun c_4 => ?_) (fun c_4 => ?_)
    · replace h := (if_pos c_4).symm.trans h
      refine lv_aload_n S.1 S.2.1 dX10_ask_73 rfl (lv_at hl 2 rfl) ?_
      refine lv_iconst (v := (1 : Int32)) S.1 S.2.1 dX10_ask_74 (by decide) ?_
      refine tp_0_10 S hK hB (S.2.2.2.2 _ (List.mem_cons_of_mem _ wf_X10_107)) rfl rfl dX10_ask_75 (fun H locs hB => ?_)
      refine lv_aload_n S.1 S.2.1 dX10_ask_78 rfl (lv_at hl 2 rfl) ?_
      refine lv_iload_n S.1 S.2.1 dX10_ask_79 rfl (lv_at hl 0 rfl) ?_
      refine tp_0_11 S hK hB (S.2.2.2.2 _ (List.mem_cons_of_mem _ wf_X10_260)) dX10_ask_80 (fun H locs hB => ?_)
      refine lv_aload_n S.1 S.2.1 dX10_ask_83 rfl (lv_at hl 2 rfl) ?_
      refine lv_iload_n S.1 S.2.1 dX10_ask_84 rfl (lv_at hl 1 rfl) ?_
      refine tp_0_12 S hK hB (S.2.2.2.2 _ (List.mem_cons_of_mem _ wf_X10_80)) dX10_ask_85 (fun H locs hB => ?_)
      refine lv_aload_n S.1 S.2.1 dX10_ask_88 rfl (lv_at hl 2 rfl) ?_
      refine lv_aload_n S.1 S.2.1 dX10_ask_89 rfl (lv_at hl 2 rfl) ?_
      refine tg_0_2 S hK hB (S.2.2.2.2 _ (List.mem_cons_of_mem _ wf_X10_28)) dX10_ask_90 ?_
      refine tgN_13_7 (v := (σ_3.1 1307)) S hK hB (nF hKS 13 rfl) rfl dX10_ask_93 ?_
      refine tp_0_13 S hK hB (S.2.2.2.2 _ (List.mem_cons_of_mem _ wf_X10_83)) dX10_ask_96 (fun H locs hB => ?_)
      refine lv_iconst (v := (0 : Int32)) S.1 S.2.1 dX10_ask_99 (by decide) ?_
      refine lv_istore_n (lv' := [(3, .int (0 : Int32)), (2, .int r_3), (1, .int y0), (0, .ref (ad 0))]) S.1 S.2.1 dX10_ask_100 rfl hl (by decide) rfl (fun ls hl => ?_)
      exact P101  L _ _ _ _ _ h hB (lv_sub hl [3, 0] rfl)
    · replace h := (if_neg c_4).symm.trans h
      refine lv_aload_n S.1 S.2.1 dX10_ask_65 rfl (lv_at hl 2 rfl) ?_
      refine tg_0_4 S hK hB (S.2.2.2.2 _ (List.mem_cons_of_mem _ wf_X10_44)) dX10_ask_66 ?_
      refine tgN_43_7 (v := (σ_3.1 4307)) S hK hB (nF hKS 23 rfl) rfl dX10_ask_69 ?_
      cases h
      exact gRetI S.1 S.2.1 hr hlk hB dX10_ask_72
  refine lv_aload_n S.1 S.2.1 dX10_ask_0 rfl (lv_at hl 0 rfl) ?_
  refine tg_0_12 S hK hB (S.2.2.2.2 _ (List.mem_cons_of_mem _ wf_X10_80)) rfl dX10_ask_1 ?_
  refine lv_sipush (v := (400 : Int32)) S.1 S.2.1 dX10_ask_4 (by decide) ?_
  refine lv_icmp_ne (tgt := 16) S.1 S.2.1 dX10_ask_7 (by decide) (fun c_1 => ?_) (fun c_1 => ?_)
  · replace h := (if_neg c_1).symm.trans h
    refine lv_sipush (v := (400 : Int32)) S.1 S.2.1 dX10_ask_16 (by decide) ?_
    exact P19  _ _ _ _ _ h hB hl
  · replace h := (if_pos c_1).symm.trans h
    refine lv_sipush (v := (800 : Int32)) S.1 S.2.1 dX10_ask_10 (by decide) ?_
    refine lv_goto (tgt := 19) S.1 S.2.1 dX10_ask_13 (by decide) ?_
    exact P19  _ _ _ _ _ h hB hl
def FX10_digest_106 (L : Nat)  : Nat → Int64 → Int32 → CS → Option (Int64 × CS)
  | 0, _, _, _ => none
  | n+1, x1, x3, σ1 =>
    b2 (FX10_howMany (0 : Int32) σ1) fun r_5 σ_5 =>
    if r_5 ≤ x3 then
      some (x1, σ_5)
    else
      (FX10_digest_106 L n) ((x1 * (31 : Int64)) + (getL 8 (σ_5.2.2.2.1 58) x3)) (x3 + (1 : Int32)) σ_5
def FX10_digest_71 (L : Nat) (k59 : Int64 → Int32 → CS → Option (Int64 × CS)) : Nat → Int64 → Int32 → Int32 → CS → Option (Int64 × CS)
  | 0, _, _, _, _ => none
  | n+1, x1, x3, x4, σ1 =>
    if (5 : Int32) ≤ x4 then
      k59 x1 (x3 + (1 : Int32)) σ1
    else
      b2 (FX10_toldOf L x3 x4 σ1) fun r_8 σ_8 =>
      (FX10_digest_71 L k59 n) ((x1 * (31 : Int64)) + r_8.toInt64) x3 (x4 + (1 : Int32)) σ_8
def FX10_digest_59 (L : Nat)  : Nat → Int64 → Int32 → CS → Option (Int64 × CS)
  | 0, _, _, _ => none
  | n+1, x1, x3, σ1 =>
    b2 (FX10_howMany (3 : Int32) σ1) fun r_3 σ_3 =>
    if r_3 ≤ x3 then
      FX10_digest_106 L L x1 (0 : Int32) σ_3
    else
      FX10_digest_71 L (FX10_digest_59 L n) L x1 x3 (0 : Int32) σ_3
def FX10_digest_33 (L : Nat)  : Nat → Int64 → Int32 → CS → Option (Int64 × CS)
  | 0, _, _, _ => none
  | n+1, x1, x3, σ1 =>
    if (σ1.1 4402) ≤ x3 then
      FX10_digest_59 L L x1 (0 : Int32) σ1
    else
      b2 (FX10_digestStep L x1 x3 σ1) fun r_9 σ_9 =>
      (FX10_digest_33 L n) r_9 (x3 + (1 : Int32)) σ_9
def FX10_digest_6 (L : Nat)  : Nat → Int64 → Int32 → CS → Option (Int64 × CS)
  | 0, _, _, _ => none
  | n+1, x1, x3, σ1 =>
    if (7 : Int32) ≤ x3 then
      FX10_digest_33 L L x1 (0 : Int32) σ1
    else
      b2 (FX10_howMany x3 σ1) fun r_10 σ_10 =>
      (FX10_digest_6 L n) ((x1 * (31 : Int64)) + r_10.toInt64) (x3 + (1 : Int32)) σ_10
def FX10_digest (L : Nat)  (σ : CS) : Option (Int64 × CS) :=
  FX10_digest_6 L L (383 : Int64) (0 : Int32) σ
abbrev rmX10_digest : Room := { frames := 5, cells := 0, slots := 0, locals := 119 }
set_option maxRecDepth 100000 in
set_option maxHeartbeats 4000000 in
theorem kX10_digest {l : Launch} {D : va_G} {cI cJ cQ : ClassId} {ad : Nat → Nat} {ra : Nat → Nat → Nat} {adK adV tK : Nat → Nat} {L : Nat}  {σ σ' : CS} {r : Int64} (h : FX10_digest L  σ = some (r, σ')) : gMet l yX10_digest qX10_digest rmX10_digest 0 0 D vwCl [(cI, .int), (cJ, .long), (cQ, .array .long)] (cKS adK adV tK) [.ref (ad 0)] (CW cI cJ cQ ad ra σ) (CW cI cJ cQ ad ra σ') (some (.long r)) := by
  refine gMet.of (cc := cX10_digest) (maxL := 5) (ret := (some .long)) (by decide) rfl (Nat.le_of_ble_eq_true rfl) ?_
  intro p e s m args below meth c S hr hlk hnm hK hKS hA hB ls hl
  have hl : lv_has ls 5 [(0, .ref (ad 0))] := hl
  replace S : CallFix p m c cX10_digest 5 s args (_ :: wsL_law) RX10 := S
  rw [FX10_digest] at h
  have P106 : ∀  (n : Nat), ∀ (x1 : Int64) (x3 : Int32) (σ1 : CS) (H : Heap) (locs : List Loc) (ls : Array Slot), FX10_digest_106 L n x1 x3 σ1 = some (r, σ') → gB D vwCl (va_A (CW cI cJ cQ ad ra σ) s.heap.size) s.heap (CW cI cJ cQ ad ra σ1) [] H locs → lv_has ls 5 [(0, .ref (ad 0)), (1, .long x1), (3, .int x3)] → W p l e rmX10_digest s m args below meth c H locs 0 0 (MQ below (gQ D vwCl (CW cI cJ cQ ad ra σ) (CW cI cJ cQ ad ra σ') (some (.long r)) s.heap.size) args s 0 0 (va_A (CW cI cJ cQ ad ra σ) s.heap.size)) (F0 m 106 ls []) := by
    intro n
    induction n with
    | zero => intro x1 x3 σ1 H locs ls h; simp only [FX10_digest_106] at h; cases h
    | succ n ih =>
      intro x1 x3 σ1 H locs ls h hB hl
      rw [FX10_digest_106] at h
      refine lv_iload_n S.1 S.2.1 dX10_digest_106 rfl (lv_at hl 2 rfl) ?_
      refine lv_aload_n S.1 S.2.1 dX10_digest_107 rfl (lv_at hl 0 rfl) ?_
      refine lv_iconst (v := (0 : Int32)) S.1 S.2.1 dX10_digest_108 (by decide) ?_
      obtain ⟨r_5, σ_5, e_5, h⟩ := b2s h
      refine cCallI S hK cKSc hKS hA (kX10_howMany e_5) (cwX10_140 S.2.2.2.2 (rm := rmX10_howMany) rfl rfl ⟨Nat.le_of_ble_eq_true rfl, Nat.le_of_ble_eq_true rfl⟩) hB 0 rfl rfl rfl hl.1 rfl (lv_room (Nat.le_of_ble_eq_true rfl)) dX10_digest_109 ⟨Nat.zero_le _, Nat.zero_le _⟩ (fun H locs hB => ?_)
      refine lv_icmp_ge (tgt := 136) S.1 S.2.1 dX10_digest_112 (by decide) (fun c_6 => ?_) (fun c_6 => ?_)
      · replace h := (if_pos c_6).symm.trans h
        refine lv_lload_n S.1 S.2.1 dX10_digest_136 rfl (lv_at hl 1 rfl) ?_
        cases h
        exact gRetL S.1 S.2.1 hr hlk hB dX10_digest_137
      · replace h := (if_neg c_6).symm.trans h
        refine lv_lload_n S.1 S.2.1 dX10_digest_115 rfl (lv_at hl 1 rfl) ?_
        refine lv_ldc2 (v := 31) S.1 S.2.1 S.2.2.2.1 (S.2.2.2.2 _ (List.mem_cons_of_mem _ wk_X10_274)) dX10_digest_116 ?_
        refine lv_lmul S.1 S.2.1 dX10_digest_119 ?_
        refine lv_aload_n S.1 S.2.1 dX10_digest_120 rfl (lv_at hl 0 rfl) ?_
        refine tg_0_8 S hK hB (S.2.2.2.2 _ (List.mem_cons_of_mem _ wf_X10_72)) dX10_digest_121 ?_
        refine lv_iload_n S.1 S.2.1 dX10_digest_124 rfl (lv_at hl 2 rfl) ?_
        refine lg_57 (r := (getL 8 (σ_5.2.2.2.1 58) x3)) S hK cKSc hKS hA hB rfl (cwX10_150 S.2.2.2.2 (rm := { frames := 0, cells := 0, slots := 0, locals := 0 }) rfl rfl ⟨Nat.le_of_ble_eq_true rfl, Nat.le_of_ble_eq_true rfl⟩) hl.1 (lv_room (Nat.le_of_ble_eq_true rfl)) dX10_digest_125 ⟨Nat.zero_le _, Nat.zero_le _⟩ (fun H locs hB => ?_)
        refine lv_ladd S.1 S.2.1 dX10_digest_128 ?_
        refine lv_lstore_n (lv' := [(1, .long ((x1 * (31 : Int64)) + (getL 8 (σ_5.2.2.2.1 58) x3))), (0, .ref (ad 0)), (3, .int x3)]) S.1 S.2.1 dX10_digest_129 rfl hl (by decide) rfl (fun ls hl => ?_)
        refine lv_iinc (v := (x3 + (1 : Int32))) (lv' := [(3, .int (x3 + (1 : Int32))), (1, .long ((x1 * (31 : Int64)) + (getL 8 (σ_5.2.2.2.1 58) x3))), (0, .ref (ad 0))]) S.1 S.2.1 dX10_digest_130 hl (k := 2) rfl rfl (by decide) rfl (fun ls hl => ?_)
        refine lv_goto (tgt := 106) S.1 S.2.1 dX10_digest_133 (by decide) ?_
        exact ih _ _ _ _ _ _ h hB (lv_sub hl [2, 1, 0] rfl)
  have P71 : ∀ (k59 : Int64 → Int32 → CS → Option (Int64 × CS)) (hk59 : ∀ (x1 : Int64) (x3 : Int32) (σ1 : CS) (H : Heap) (locs : List Loc) (ls : Array Slot), k59 x1 x3 σ1 = some (r, σ') → gB D vwCl (va_A (CW cI cJ cQ ad ra σ) s.heap.size) s.heap (CW cI cJ cQ ad ra σ1) [] H locs → lv_has ls 5 [(0, .ref (ad 0)), (1, .long x1), (3, .int x3)] → W p l e rmX10_digest s m args below meth c H locs 0 0 (MQ below (gQ D vwCl (CW cI cJ cQ ad ra σ) (CW cI cJ cQ ad ra σ') (some (.long r)) s.heap.size) args s 0 0 (va_A (CW cI cJ cQ ad ra σ) s.heap.size)) (F0 m 59 ls [])) (n : Nat), ∀ (x1 : Int64) (x3 : Int32) (x4 : Int32) (σ1 : CS) (H : Heap) (locs : List Loc) (ls : Array Slot), FX10_digest_71 L k59 n x1 x3 x4 σ1 = some (r, σ') → gB D vwCl (va_A (CW cI cJ cQ ad ra σ) s.heap.size) s.heap (CW cI cJ cQ ad ra σ1) [] H locs → lv_has ls 5 [(0, .ref (ad 0)), (1, .long x1), (3, .int x3), (4, .int x4)] → W p l e rmX10_digest s m args below meth c H locs 0 0 (MQ below (gQ D vwCl (CW cI cJ cQ ad ra σ) (CW cI cJ cQ ad ra σ') (some (.long r)) s.heap.size) args s 0 0 (va_A (CW cI cJ cQ ad ra σ) s.heap.size)) (F0 m 71 ls []) := by
    intro k59 hk59
    intro n
    induction n with
    | zero => intro x1 x3 x4 σ1 H locs ls h; simp only [FX10_digest_71] at h; cases h
    | succ n ih =>
      intro x1 x3 x4 σ1 H locs ls h hB hl
      rw [FX10_digest_71] at h
      refine lv_iload S.1 S.2.1 dX10_digest_71 (lv_at hl 3 rfl) ?_
      refine lv_iconst (v := (5 : Int32)) S.1 S.2.1 dX10_digest_73 (by decide) ?_
      refine lv_icmp_ge (tgt := 98) S.1 S.2.1 dX10_digest_74 (by decide) (fun c_7 => ?_) (fun c_7 => ?_)
      · replace h := (if_pos c_7).symm.trans h
        refine lv_iinc (v := (x3 + (1 : Int32))) (lv' := [(3, .int (x3 + (1 : Int32))), (0, .ref (ad 0)), (1, .long x1), (4, .int x4)]) S.1 S.2.1 dX10_digest_98 hl (k := 2) rfl rfl (by decide) rfl (fun ls hl => ?_)
        refine lv_goto (tgt := 59) S.1 S.2.1 dX10_digest_101 (by decide) ?_
        exact hk59 _ _ _ _ _ _ h hB (lv_sub hl [1, 2, 0] rfl)
      · replace h := (if_neg c_7).symm.trans h
        refine lv_lload_n S.1 S.2.1 dX10_digest_77 rfl (lv_at hl 1 rfl) ?_
        refine lv_ldc2 (v := 31) S.1 S.2.1 S.2.2.2.1 (S.2.2.2.2 _ (List.mem_cons_of_mem _ wk_X10_274)) dX10_digest_78 ?_
        refine lv_lmul S.1 S.2.1 dX10_digest_81 ?_
        refine lv_aload_n S.1 S.2.1 dX10_digest_82 rfl (lv_at hl 0 rfl) ?_
        refine lv_iload_n S.1 S.2.1 dX10_digest_83 rfl (lv_at hl 2 rfl) ?_
        refine lv_iload S.1 S.2.1 dX10_digest_84 (lv_at hl 3 rfl) ?_
        obtain ⟨r_8, σ_8, e_8, h⟩ := b2s h
        refine cCallI S hK cKSc hKS hA (kX10_toldOf e_8) (cwX10_229 S.2.2.2.2 (rm := rmX10_toldOf) rfl rfl ⟨Nat.le_of_ble_eq_true rfl, Nat.le_of_ble_eq_true rfl⟩) hB 0 rfl rfl rfl hl.1 rfl (lv_room (Nat.le_of_ble_eq_true rfl)) dX10_digest_86 ⟨Nat.zero_le _, Nat.zero_le _⟩ (fun H locs hB => ?_)
        refine lv_i2l (v := r_8.toInt64) S.1 S.2.1 dX10_digest_89 rfl ?_
        refine lv_ladd S.1 S.2.1 dX10_digest_90 ?_
        refine lv_lstore_n (lv' := [(1, .long ((x1 * (31 : Int64)) + r_8.toInt64)), (0, .ref (ad 0)), (3, .int x3), (4, .int x4)]) S.1 S.2.1 dX10_digest_91 rfl hl (by decide) rfl (fun ls hl => ?_)
        refine lv_iinc (v := (x4 + (1 : Int32))) (lv' := [(4, .int (x4 + (1 : Int32))), (1, .long ((x1 * (31 : Int64)) + r_8.toInt64)), (0, .ref (ad 0)), (3, .int x3)]) S.1 S.2.1 dX10_digest_92 hl (k := 3) rfl rfl (by decide) rfl (fun ls hl => ?_)
        refine lv_goto (tgt := 71) S.1 S.2.1 dX10_digest_95 (by decide) ?_
        exact ih _ _ _ _ _ _ _ h hB (lv_sub hl [2, 1, 3, 0] rfl)
  have P59 : ∀  (n : Nat), ∀ (x1 : Int64) (x3 : Int32) (σ1 : CS) (H : Heap) (locs : List Loc) (ls : Array Slot), FX10_digest_59 L n x1 x3 σ1 = some (r, σ') → gB D vwCl (va_A (CW cI cJ cQ ad ra σ) s.heap.size) s.heap (CW cI cJ cQ ad ra σ1) [] H locs → lv_has ls 5 [(0, .ref (ad 0)), (1, .long x1), (3, .int x3)] → W p l e rmX10_digest s m args below meth c H locs 0 0 (MQ below (gQ D vwCl (CW cI cJ cQ ad ra σ) (CW cI cJ cQ ad ra σ') (some (.long r)) s.heap.size) args s 0 0 (va_A (CW cI cJ cQ ad ra σ) s.heap.size)) (F0 m 59 ls []) := by
    intro n
    induction n with
    | zero => intro x1 x3 σ1 H locs ls h; simp only [FX10_digest_59] at h; cases h
    | succ n ih =>
      intro x1 x3 σ1 H locs ls h hB hl
      rw [FX10_digest_59] at h
      refine lv_iload_n S.1 S.2.1 dX10_digest_59 rfl (lv_at hl 2 rfl) ?_
      refine lv_aload_n S.1 S.2.1 dX10_digest_60 rfl (lv_at hl 0 rfl) ?_
      refine lv_iconst (v := (3 : Int32)) S.1 S.2.1 dX10_digest_61 (by decide) ?_
      obtain ⟨r_3, σ_3, e_3, h⟩ := b2s h
      refine cCallI S hK cKSc hKS hA (kX10_howMany e_3) (cwX10_140 S.2.2.2.2 (rm := rmX10_howMany) rfl rfl ⟨Nat.le_of_ble_eq_true rfl, Nat.le_of_ble_eq_true rfl⟩) hB 0 rfl rfl rfl hl.1 rfl (lv_room (Nat.le_of_ble_eq_true rfl)) dX10_digest_62 ⟨Nat.zero_le _, Nat.zero_le _⟩ (fun H locs hB => ?_)
      refine lv_icmp_ge (tgt := 104) S.1 S.2.1 dX10_digest_65 (by decide) (fun c_4 => ?_) (fun c_4 => ?_)
      · replace h := (if_pos c_4).symm.trans h
        refine lv_iconst (v := (0 : Int32)) S.1 S.2.1 dX10_digest_104 (by decide) ?_
        refine lv_istore_n (lv' := [(3, .int (0 : Int32)), (0, .ref (ad 0)), (1, .long x1)]) S.1 S.2.1 dX10_digest_105 rfl hl (by decide) rfl (fun ls hl => ?_)
        exact P106  L _ _ _ _ _ _ h hB (lv_sub hl [1, 2, 0] rfl)
      · replace h := (if_neg c_4).symm.trans h
        refine lv_iconst (v := (0 : Int32)) S.1 S.2.1 dX10_digest_68 (by decide) ?_
        refine lv_istore (lv' := [(4, .int (0 : Int32)), (0, .ref (ad 0)), (1, .long x1), (3, .int x3)]) S.1 S.2.1 dX10_digest_69 hl (by decide) rfl (fun ls hl => ?_)
        exact P71 (FX10_digest_59 L n) ih L _ _ _ _ _ _ _ h hB (lv_sub hl [1, 2, 3, 0] rfl)
  have P33 : ∀  (n : Nat), ∀ (x1 : Int64) (x3 : Int32) (σ1 : CS) (H : Heap) (locs : List Loc) (ls : Array Slot), FX10_digest_33 L n x1 x3 σ1 = some (r, σ') → gB D vwCl (va_A (CW cI cJ cQ ad ra σ) s.heap.size) s.heap (CW cI cJ cQ ad ra σ1) [] H locs → lv_has ls 5 [(0, .ref (ad 0)), (1, .long x1), (3, .int x3)] → W p l e rmX10_digest s m args below meth c H locs 0 0 (MQ below (gQ D vwCl (CW cI cJ cQ ad ra σ) (CW cI cJ cQ ad ra σ') (some (.long r)) s.heap.size) args s 0 0 (va_A (CW cI cJ cQ ad ra σ) s.heap.size)) (F0 m 33 ls []) := by
    intro n
    induction n with
    | zero => intro x1 x3 σ1 H locs ls h; simp only [FX10_digest_33] at h; cases h
    | succ n ih =>
      intro x1 x3 σ1 H locs ls h hB hl
      rw [FX10_digest_33] at h
      refine lv_iload_n S.1 S.2.1 dX10_digest_33 rfl (lv_at hl 2 rfl) ?_
      refine lv_aload_n S.1 S.2.1 dX10_digest_34 rfl (lv_at hl 0 rfl) ?_
      refine tg_0_5 S hK hB (S.2.2.2.2 _ (List.mem_cons_of_mem _ wf_X10_51)) dX10_digest_35 ?_
      refine tgN_44_2 S hK hB (nF hKS 29 rfl) rfl dX10_digest_38 ?_
      refine lv_icmp_ge (tgt := 57) S.1 S.2.1 dX10_digest_41 (by decide) (fun c_2 => ?_) (fun c_2 => ?_)
      · replace h := (if_pos c_2).symm.trans h
        refine lv_iconst (v := (0 : Int32)) S.1 S.2.1 dX10_digest_57 (by decide) ?_
        refine lv_istore_n (lv' := [(3, .int (0 : Int32)), (0, .ref (ad 0)), (1, .long x1)]) S.1 S.2.1 dX10_digest_58 rfl hl (by decide) rfl (fun ls hl => ?_)
        exact P59  L _ _ _ _ _ _ h hB (lv_sub hl [1, 2, 0] rfl)
      · replace h := (if_neg c_2).symm.trans h
        refine lv_aload_n S.1 S.2.1 dX10_digest_44 rfl (lv_at hl 0 rfl) ?_
        refine lv_lload_n S.1 S.2.1 dX10_digest_45 rfl (lv_at hl 1 rfl) ?_
        refine lv_iload_n S.1 S.2.1 dX10_digest_46 rfl (lv_at hl 2 rfl) ?_
        obtain ⟨r_9, σ_9, e_9, h⟩ := b2s h
        refine cCallL S hK cKSc hKS hA (kX10_digestStep e_9) (cwX10_276 S.2.2.2.2 (rm := rmX10_digestStep) rfl rfl ⟨Nat.le_of_ble_eq_true rfl, Nat.le_of_ble_eq_true rfl⟩) hB 0 rfl rfl rfl hl.1 rfl (lv_room (Nat.le_of_ble_eq_true rfl)) dX10_digest_47 ⟨Nat.zero_le _, Nat.zero_le _⟩ (fun H locs hB => ?_)
        refine lv_lstore_n (lv' := [(1, .long r_9), (0, .ref (ad 0)), (3, .int x3)]) S.1 S.2.1 dX10_digest_50 rfl hl (by decide) rfl (fun ls hl => ?_)
        refine lv_iinc (v := (x3 + (1 : Int32))) (lv' := [(3, .int (x3 + (1 : Int32))), (1, .long r_9), (0, .ref (ad 0))]) S.1 S.2.1 dX10_digest_51 hl (k := 2) rfl rfl (by decide) rfl (fun ls hl => ?_)
        refine lv_goto (tgt := 33) S.1 S.2.1 dX10_digest_54 (by decide) ?_
        exact ih _ _ _ _ _ _ h hB (lv_sub hl [2, 1, 0] rfl)
  have P6 : ∀  (n : Nat), ∀ (x1 : Int64) (x3 : Int32) (σ1 : CS) (H : Heap) (locs : List Loc) (ls : Array Slot), FX10_digest_6 L n x1 x3 σ1 = some (r, σ') → gB D vwCl (va_A (CW cI cJ cQ ad ra σ) s.heap.size) s.heap (CW cI cJ cQ ad ra σ1) [] H locs → lv_has ls 5 [(0, .ref (ad 0)), (1, .long x1), (3, .int x3)] → W p l e rmX10_digest s m args below meth c H locs 0 0 (MQ below (gQ D vwCl (CW cI cJ cQ ad ra σ) (CW cI cJ cQ ad ra σ') (some (.long r)) s.heap.size) args s 0 0 (va_A (CW cI cJ cQ ad ra σ) s.heap.size)) (F0 m 6 ls []) := by
    intro n
    induction n with
    | zero => intro x1 x3 σ1 H locs ls h; simp only [FX10_digest_6] at h; cases h
    | succ n ih =>
      intro x1 x3 σ1 H locs ls h hB hl
      rw [FX10_digest_6] at h
      refine lv_iload_n S.1 S.2.1 dX10_digest_6 rfl (lv_at hl 2 rfl) ?_
      refine lv_bipush (v := (7 : Int32)) S.1 S.2.1 dX10_digest_7 (by decide) ?_
      refine lv_icmp_ge (tgt := 31) S.1 S.2.1 dX10_digest_9 (by decide) (fun c_1 => ?_) (fun c_1 => ?_)
      · replace h := (if_pos c_1).symm.trans h
        refine lv_iconst (v := (0 : Int32)) S.1 S.2.1 dX10_digest_31 (by decide) ?_
        refine lv_istore_n (lv' := [(3, .int (0 : Int32)), (0, .ref (ad 0)), (1, .long x1)]) S.1 S.2.1 dX10_digest_32 rfl hl (by decide) rfl (fun ls hl => ?_)
        exact P33  L _ _ _ _ _ _ h hB (lv_sub hl [1, 2, 0] rfl)
      · replace h := (if_neg c_1).symm.trans h
        refine lv_lload_n S.1 S.2.1 dX10_digest_12 rfl (lv_at hl 1 rfl) ?_
        refine lv_ldc2 (v := 31) S.1 S.2.1 S.2.2.2.1 (S.2.2.2.2 _ (List.mem_cons_of_mem _ wk_X10_274)) dX10_digest_13 ?_
        refine lv_lmul S.1 S.2.1 dX10_digest_16 ?_
        refine lv_aload_n S.1 S.2.1 dX10_digest_17 rfl (lv_at hl 0 rfl) ?_
        refine lv_iload_n S.1 S.2.1 dX10_digest_18 rfl (lv_at hl 2 rfl) ?_
        obtain ⟨r_10, σ_10, e_10, h⟩ := b2s h
        refine cCallI S hK cKSc hKS hA (kX10_howMany e_10) (cwX10_140 S.2.2.2.2 (rm := rmX10_howMany) rfl rfl ⟨Nat.le_of_ble_eq_true rfl, Nat.le_of_ble_eq_true rfl⟩) hB 0 rfl rfl rfl hl.1 rfl (lv_room (Nat.le_of_ble_eq_true rfl)) dX10_digest_19 ⟨Nat.zero_le _, Nat.zero_le _⟩ (fun H locs hB => ?_)
        refine lv_i2l (v := r_10.toInt64) S.1 S.2.1 dX10_digest_22 rfl ?_
        refine lv_ladd S.1 S.2.1 dX10_digest_23 ?_
        refine lv_lstore_n (lv' := [(1, .long ((x1 * (31 : Int64)) + r_10.toInt64)), (0, .ref (ad 0)), (3, .int x3)]) S.1 S.2.1 dX10_digest_24 rfl hl (by decide) rfl (fun ls hl => ?_)
        refine lv_iinc (v := (x3 + (1 : Int32))) (lv' := [(3, .int (x3 + (1 : Int32))), (1, .long ((x1 * (31 : Int64)) + r_10.toInt64)), (0, .ref (ad 0))]) S.1 S.2.1 dX10_digest_25 hl (k := 2) rfl rfl (by decide) rfl (fun ls hl => ?_)
        refine lv_goto (tgt := 6) S.1 S.2.1 dX10_digest_28 (by decide) ?_
        exact ih _ _ _ _ _ _ h hB (lv_sub hl [2, 1, 0] rfl)
  refine lv_ldc2 (v := 383) S.1 S.2.1 S.2.2.2.1 (S.2.2.2.2 _ (List.mem_cons_of_mem _ wk_X10_272)) dX10_digest_0 ?_
  refine lv_lstore_n (lv' := [(1, .long (383 : Int64)), (0, .ref (ad 0))]) S.1 S.2.1 dX10_digest_3 rfl hl (by decide) rfl (fun ls hl => ?_)
  refine lv_iconst (v := (0 : Int32)) S.1 S.2.1 dX10_digest_4 (by decide) ?_
  refine lv_istore_n (lv' := [(3, .int (0 : Int32)), (1, .long (383 : Int64)), (0, .ref (ad 0))]) S.1 S.2.1 dX10_digest_5 rfl hl (by decide) rfl (fun ls hl => ?_)
  exact P6  L _ _ _ _ _ _ h hB (lv_sub hl [2, 1, 0] rfl)
