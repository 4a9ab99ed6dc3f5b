def FX10_feed (L : Nat) (p0 : Int32) (p1 : Int32) (p2 : Int32) (p3 : Int32) (p4 : Int32) (σ : CS) : Option ((Nat ⊕ Int32) × CS) :=
  if (σ.1 101) ≤ (1780 : Int32) then
    b2 (FX8_append L p0 σ) fun (_ : Unit) σ_2 =>
    b2 (FX8_append L p1 σ_2) fun (_ : Unit) σ_3 =>
    b2 (FX8_append L p2 σ_3) fun (_ : Unit) σ_4 =>
    b2 (FX8_append L p3 σ_4) fun (_ : Unit) σ_5 =>
    b2 (FX8_append L p4 σ_5) fun (_ : Unit) σ_6 =>
    some (.inr (σ_6.1 101), σ_6)
  else
    some (.inl 0, σ)
abbrev rmX10_feed : Room := { frames := 6, cells := 1, slots := 6, locals := 82 }
set_option maxRecDepth 100000 in
set_option maxHeartbeats 4000000 in
theorem kX10_feed {l : Launch} {D : va_G} {cI cJ cQ : ClassId} {ad : Nat → Nat} {ra : Nat → Nat → Nat} {adK adV tK : Nat → Nat} {L : Nat} {p0 : Int32} {p1 : Int32} {p2 : Int32} {p3 : Int32} {p4 : Int32} {σ σ' : CS} {r : Nat ⊕ Int32} (hl9 : l.stackTraces = false) (h : FX10_feed L p0 p1 p2 p3 p4 σ = some (r, σ')) : gMetX l yX10_feed qX10_feed rmX10_feed D vwCl [(cI, .int), (cJ, .long), (cQ, .array .long)] (xKS adK adV tK) [.ref (ad 0), .int p0, .int p1, .int p2, .int p3, .int p4] (CW cI cJ cQ ad ra σ) (CW cI cJ cQ ad ra σ') (xvI r) := by
  refine gMetX.of (cc := cX10_feed) (maxL := 6) (ret := (some .int)) (by decide) rfl (Nat.le_of_ble_eq_true rfl) ?_
  intro p e s m args below meth c S hr hlk hnm ht hK hKS hA hB ls hl
  have hl : lv_has ls 6 [(0, .ref (ad 0)), (1, .int p0), (2, .int p1), (3, .int p2), (4, .int p3), (5, .int p4)] := hl
  replace S : CallFix p m c cX10_feed 6 s args (_ :: wsL_law) RX10 := S
  rw [FX10_feed] at h
  refine lv_aload_n S.1 S.2.1 dX10_feed_0 rfl (lv_at hl 0 rfl) ?_
  refine tg_0_0 S hK hB (S.2.2.2.2 _ (List.mem_cons_of_mem _ wf_X10_10)) dX10_feed_1 ?_
  refine tgN_1_1 S hK hB (nF hKS.1 0 rfl) rfl dX10_feed_4 ?_
  refine lv_sipush (v := (1780 : Int32)) S.1 S.2.1 dX10_feed_7 (by decide) ?_
  refine lv_icmp_le (tgt := 23) S.1 S.2.1 dX10_feed_10 (by decide) (fun c_1 => ?_) (fun c_1 => ?_)
  · replace h := (if_pos c_1).symm.trans h
    refine lv_aload_n S.1 S.2.1 dX10_feed_23 rfl (lv_at hl 0 rfl) ?_
    refine tg_0_0 S hK hB (S.2.2.2.2 _ (List.mem_cons_of_mem _ wf_X10_10)) dX10_feed_24 ?_
    refine lv_iload_n S.1 S.2.1 dX10_feed_27 rfl (lv_at hl 1 rfl) ?_
    obtain ⟨_, σ_2, e_2, h⟩ := b2s h
    refine cCallV S hK xKSc hKS hA (gMet.weak (kX8_append e_2) (fun _ _ q => q.1)) (cwX10_96 S.2.2.2.2 (rm := rmX8_append) rfl rfl ⟨Nat.le_of_ble_eq_true rfl, Nat.le_of_ble_eq_true rfl⟩) hB 1 rfl rfl rfl hl.1 rfl (lv_room (Nat.le_of_ble_eq_true rfl)) dX10_feed_28 ⟨by decide, by decide⟩ (fun H locs hB => ?_)
    refine lv_aload_n S.1 S.2.1 dX10_feed_31 rfl (lv_at hl 0 rfl) ?_
    refine tg_0_0 S hK hB (S.2.2.2.2 _ (List.mem_cons_of_mem _ wf_X10_10)) dX10_feed_32 ?_
    refine lv_iload_n S.1 S.2.1 dX10_feed_35 rfl (lv_at hl 2 rfl) ?_
    obtain ⟨_, σ_3, e_3, h⟩ := b2s h
    refine cCallV S hK xKSc hKS hA (gMet.weak (kX8_append e_3) (fun _ _ q => q.1)) (cwX10_96 S.2.2.2.2 (rm := rmX8_append) rfl rfl ⟨Nat.le_of_ble_eq_true rfl, Nat.le_of_ble_eq_true rfl⟩) hB 1 rfl rfl rfl hl.1 rfl (lv_room (Nat.le_of_ble_eq_true rfl)) dX10_feed_36 ⟨by decide, by decide⟩ (fun H locs hB => ?_)
    refine lv_aload_n S.1 S.2.1 dX10_feed_39 rfl (lv_at hl 0 rfl) ?_
    refine tg_0_0 S hK hB (S.2.2.2.2 _ (List.mem_cons_of_mem _ wf_X10_10)) dX10_feed_40 ?_
    refine lv_iload_n S.1 S.2.1 dX10_feed_43 rfl (lv_at hl 3 rfl) ?_
    obtain ⟨_, σ_4, e_4, h⟩ := b2s h
    refine cCallV S hK xKSc hKS hA (gMet.weak (kX8_append e_4) (fun _ _ q => q.1)) (cwX10_96 S.2.2.2.2 (rm := rmX8_append) rfl rfl ⟨Nat.le_of_ble_eq_true rfl, Nat.le_of_ble_eq_true rfl⟩) hB 1 rfl rfl rfl hl.1 rfl (lv_room (Nat.le_of_ble_eq_true rfl)) dX10_feed_44 ⟨by decide, by decide⟩ (fun H locs hB => ?_)
    refine lv_aload_n S.1 S.2.1 dX10_feed_47 rfl (lv_at hl 0 rfl) ?_
    refine tg_0_0 S hK hB (S.2.2.2.2 _ (List.mem_cons_of_mem _ wf_X10_10)) dX10_feed_48 ?_
    refine lv_iload S.1 S.2.1 dX10_feed_51 (lv_at hl 4 rfl) ?_
    obtain ⟨_, σ_5, e_5, h⟩ := b2s h
    refine cCallV S hK xKSc hKS hA (gMet.weak (kX8_append e_5) (fun _ _ q => q.1)) (cwX10_96 S.2.2.2.2 (rm := rmX8_append) rfl rfl ⟨Nat.le_of_ble_eq_true rfl, Nat.le_of_ble_eq_true rfl⟩) hB 1 rfl rfl rfl hl.1 rfl (lv_room (Nat.le_of_ble_eq_true rfl)) dX10_feed_53 ⟨by decide, by decide⟩ (fun H locs hB => ?_)
    refine lv_aload_n S.1 S.2.1 dX10_feed_56 rfl (lv_at hl 0 rfl) ?_
    refine tg_0_0 S hK hB (S.2.2.2.2 _ (List.mem_cons_of_mem _ wf_X10_10)) dX10_feed_57 ?_
    refine lv_iload S.1 S.2.1 dX10_feed_60 (lv_at hl 5 rfl) ?_
    obtain ⟨_, σ_6, e_6, h⟩ := b2s h
    refine cCallV S hK xKSc hKS hA (gMet.weak (kX8_append e_6) (fun _ _ q => q.1)) (cwX10_96 S.2.2.2.2 (rm := rmX8_append) rfl rfl ⟨Nat.le_of_ble_eq_true rfl, Nat.le_of_ble_eq_true rfl⟩) hB 1 rfl rfl rfl hl.1 rfl (lv_room (Nat.le_of_ble_eq_true rfl)) dX10_feed_62 ⟨by decide, by decide⟩ (fun H locs hB => ?_)
    refine lv_aload_n S.1 S.2.1 dX10_feed_65 rfl (lv_at hl 0 rfl) ?_
    refine tg_0_0 S hK hB (S.2.2.2.2 _ (List.mem_cons_of_mem _ wf_X10_10)) dX10_feed_66 ?_
    refine tgN_1_1 S hK hB (nF hKS.1 0 rfl) rfl dX10_feed_69 ?_
    refine W.widen (k := 1) (n := 6) (by decide) (by decide) ?_
    cases h
    exact gXret (gRetI S.1 S.2.1 hr hlk hB dX10_feed_72)
  · replace h := (if_neg c_1).symm.trans h
    cases h
    exact xThr_0 S hl9 hlk ht hKS hB hl.1 (text := "the tape is full") (List.mem_of_getElem? (i := 53) rfl) dX10_feed_13 dX10_feed_16 dX10_feed_17 dX10_feed_19 dX10_feed_22 (Nat.le_of_ble_eq_true rfl) (Nat.le_of_ble_eq_true rfl) (Nat.le_of_ble_eq_true rfl) (Nat.le_of_ble_eq_true rfl)
def FX10_trim_15   (σ1 : CS) : Option ((Nat ⊕ Int32) × CS) :=
    some (.inl 1, σ1)
def FX10_trim (p0 : Int32) (σ : CS) : Option ((Nat ⊕ Int32) × CS) :=
  if p0 < 0 then
    FX10_trim_15 σ
  else
    if p0 ≤ (σ.1 101) then
      some (.inr p0, (tI σ 101 p0))
    else
      FX10_trim_15 σ
abbrev rmX10_trim : Room := { frames := 6, cells := 1, slots := 6, locals := 82 }
set_option maxRecDepth 100000 in
set_option maxHeartbeats 4000000 in
theorem kX10_trim {l : Launch} {D : va_G} {cI cJ cQ : ClassId} {ad : Nat → Nat} {ra : Nat → Nat → Nat} {adK adV tK : Nat → Nat} {p0 : Int32} {σ σ' : CS} {r : Nat ⊕ Int32} (hl9 : l.stackTraces = false) (h : FX10_trim p0 σ = some (r, σ')) : gMetX l yX10_trim qX10_trim rmX10_trim D vwCl [(cI, .int), (cJ, .long), (cQ, .array .long)] (xKS adK adV tK) [.ref (ad 0), .int p0] (CW cI cJ cQ ad ra σ) (CW cI cJ cQ ad ra σ') (xvI r) := by
  refine gMetX.of (cc := cX10_trim) (maxL := 2) (ret := (some .int)) (by decide) rfl (Nat.le_of_ble_eq_true rfl) ?_
  intro p e s m args below meth c S hr hlk hnm ht hK hKS hA hB ls hl
  have hl : lv_has ls 2 [(0, .ref (ad 0)), (1, .int p0)] := hl
  replace S : CallFix p m c cX10_trim 2 s args (_ :: wsL_law) RX10 := S
  rw [FX10_trim] at h
  have P15 : ∀  (σ1 : CS) (H : Heap) (locs : List Loc) (ls : Array Slot), FX10_trim_15  σ1 = some (r, σ') → gB D vwCl (va_A (CW cI cJ cQ ad ra σ) s.heap.size) s.heap (CW cI cJ cQ ad ra σ1) [] H locs → lv_has ls 2 [] → W p l e rmX10_trim s m args below meth c H locs 0 0 (vx_MQ below (gXQ D vwCl (CW cI cJ cQ ad ra σ) (CW cI cJ cQ ad ra σ') (xvI r) s.heap.size) (gXC D vwCl (CW cI cJ cQ ad ra σ) (CW cI cJ cQ ad ra σ') (xvI r) s.heap.size) args s 1 6 (va_A (CW cI cJ cQ ad ra σ) s.heap.size)) (F0 m 15 ls []) := by
    intro   σ1 H locs ls h hB hl
    rw [FX10_trim_15] at h
    cases h
    exact xThr_1 S hl9 hlk ht hKS hB hl.1 (text := "not 0 to the length of the tape") (List.mem_of_getElem? (i := 54) rfl) dX10_trim_15 dX10_trim_18 dX10_trim_19 dX10_trim_21 dX10_trim_24 (Nat.le_of_ble_eq_true rfl) (Nat.le_of_ble_eq_true rfl) (Nat.le_of_ble_eq_true rfl) (Nat.le_of_ble_eq_true rfl)
  refine lv_iload_n S.1 S.2.1 dX10_trim_0 rfl (lv_at hl 1 rfl) ?_
  refine lv_if_lt (tgt := 15) S.1 S.2.1 dX10_trim_1 (by decide) (fun c_1 => ?_) (fun c_1 => ?_)
  · replace h := (if_pos c_1).symm.trans h
    exact P15  _ _ _ _ h hB (lv_sub hl [] rfl)
  · replace h := (if_neg c_1).symm.trans h
    refine lv_iload_n S.1 S.2.1 dX10_trim_4 rfl (lv_at hl 1 rfl) ?_
    refine lv_aload_n S.1 S.2.1 dX10_trim_5 rfl (lv_at hl 0 rfl) ?_
    refine tg_0_0 S hK hB (S.2.2.2.2 _ (List.mem_cons_of_mem _ wf_X10_10)) dX10_trim_6 ?_
    refine tgN_1_1 S hK hB (nF hKS.1 0 rfl) rfl dX10_trim_9 ?_
    refine lv_icmp_le (tgt := 25) S.1 S.2.1 dX10_trim_12 (by decide) (fun c_2 => ?_) (fun c_2 => ?_)
    · replace h := (if_pos c_2).symm.trans h
      refine lv_aload_n S.1 S.2.1 dX10_trim_25 rfl (lv_at hl 0 rfl) ?_
      refine tg_0_0 S hK hB (S.2.2.2.2 _ (List.mem_cons_of_mem _ wf_X10_10)) dX10_trim_26 ?_
      refine lv_iload_n S.1 S.2.1 dX10_trim_29 rfl (lv_at hl 1 rfl) ?_
      refine tpN_1_1 S hK hB (nF hKS.1 0 rfl) dX10_trim_30 (fun H locs hB => ?_)
      refine lv_iload_n S.1 S.2.1 dX10_trim_33 rfl (lv_at hl 1 rfl) ?_
      refine W.widen (k := 1) (n := 6) (by decide) (by decide) ?_
      cases h
      exact gXret (gRetI S.1 S.2.1 hr hlk hB dX10_trim_34)
    · replace h := (if_neg c_2).symm.trans h
      exact P15  _ _ _ _ h hB (lv_sub hl [] rfl)
def FX10_count_10   (σ1 : CS) : Option ((Nat ⊕ Int32) × CS) :=
    some (.inl 2, σ1)
def FX10_count (p0 : Int32) (σ : CS) : Option ((Nat ⊕ Int32) × CS) :=
  if p0 < 0 then
    FX10_count_10 σ
  else
    if p0 < (7 : Int32) then
      b2 (FX10_howMany p0 σ) fun r_3 σ_3 =>
      some (.inr r_3, σ_3)
    else
      FX10_count_10 σ
abbrev rmX10_count : Room := { frames := 6, cells := 1, slots := 6, locals := 82 }
set_option maxRecDepth 100000 in
set_option maxHeartbeats 4000000 in
theorem kX10_count {l : Launch} {D : va_G} {cI cJ cQ : ClassId} {ad : Nat → Nat} {ra : Nat → Nat → Nat} {adK adV tK : Nat → Nat} {p0 : Int32} {σ σ' : CS} {r : Nat ⊕ Int32} (hl9 : l.stackTraces = false) (h : FX10_count p0 σ = some (r, σ')) : gMetX l yX10_count qX10_count rmX10_count D vwCl [(cI, .int), (cJ, .long), (cQ, .array .long)] (xKS adK adV tK) [.ref (ad 0), .int p0] (CW cI cJ cQ ad ra σ) (CW cI cJ cQ ad ra σ') (xvI r) := by
  refine gMetX.of (cc := cX10_count) (maxL := 2) (ret := (some .int)) (by decide) rfl (Nat.le_of_ble_eq_true rfl) ?_
  intro p e s m args below meth c S hr hlk hnm ht hK hKS hA hB ls hl
  have hl : lv_has ls 2 [(0, .ref (ad 0)), (1, .int p0)] := hl
  replace S : CallFix p m c cX10_count 2 s args (_ :: wsL_law) RX10 := S
  rw [FX10_count] at h
  have P10 : ∀  (σ1 : CS) (H : Heap) (locs : List Loc) (ls : Array Slot), FX10_count_10  σ1 = some (r, σ') → gB D vwCl (va_A (CW cI cJ cQ ad ra σ) s.heap.size) s.heap (CW cI cJ cQ ad ra σ1) [] H locs → lv_has ls 2 [] → W p l e rmX10_count s m args below meth c H locs 0 0 (vx_MQ below (gXQ D vwCl (CW cI cJ cQ ad ra σ) (CW cI cJ cQ ad ra σ') (xvI r) s.heap.size) (gXC D vwCl (CW cI cJ cQ ad ra σ) (CW cI cJ cQ ad ra σ') (xvI r) s.heap.size) args s 1 6 (va_A (CW cI cJ cQ ad ra σ) s.heap.size)) (F0 m 10 ls []) := by
    intro   σ1 H locs ls h hB hl
    rw [FX10_count_10] at h
    cases h
    exact xThr_2 S hl9 hlk ht hKS hB hl.1 (text := "not 0 to 6") (List.mem_of_getElem? (i := 55) rfl) dX10_count_10 dX10_count_13 dX10_count_14 dX10_count_16 dX10_count_19 (Nat.le_of_ble_eq_true rfl) (Nat.le_of_ble_eq_true rfl) (Nat.le_of_ble_eq_true rfl) (Nat.le_of_ble_eq_true rfl)
  refine lv_iload_n S.1 S.2.1 dX10_count_0 rfl (lv_at hl 1 rfl) ?_
  refine lv_if_lt (tgt := 10) S.1 S.2.1 dX10_count_1 (by decide) (fun c_1 => ?_) (fun c_1 => ?_)
  · replace h := (if_pos c_1).symm.trans h
    exact P10  _ _ _ _ h hB (lv_sub hl [] rfl)
  · replace h := (if_neg c_1).symm.trans h
    refine lv_iload_n S.1 S.2.1 dX10_count_4 rfl (lv_at hl 1 rfl) ?_
    refine lv_bipush (v := (7 : Int32)) S.1 S.2.1 dX10_count_5 (by decide) ?_
    refine lv_icmp_lt (tgt := 20) S.1 S.2.1 dX10_count_7 (by decide) (fun c_2 => ?_) (fun c_2 => ?_)
    · replace h := (if_pos c_2).symm.trans h
      refine lv_aload_n S.1 S.2.1 dX10_count_20 rfl (lv_at hl 0 rfl) ?_
      refine lv_iload_n S.1 S.2.1 dX10_count_21 rfl (lv_at hl 1 rfl) ?_
      obtain ⟨r_3, σ_3, e_3, h⟩ := b2s h
      refine cCallI S hK xKSc hKS hA (gMet.weak (kX10_howMany e_3) (fun _ _ q => q.1)) (cwX10_140 S.2.2.2.2 (rm := rmX10_howMany) rfl rfl ⟨Nat.le_of_ble_eq_true rfl, Nat.le_of_ble_eq_true rfl⟩) hB 0 rfl rfl rfl hl.1 rfl (lv_room (Nat.le_of_ble_eq_true rfl)) dX10_count_22 ⟨by decide, by decide⟩ (fun H locs hB => ?_)
      refine W.widen (k := 1) (n := 6) (by decide) (by decide) ?_
      cases h
      exact gXret (gRetI S.1 S.2.1 hr hlk hB dX10_count_25)
    · replace h := (if_neg c_2).symm.trans h
      exact P10  _ _ _ _ h hB (lv_sub hl [] rfl)
def FX10_set (p0 : Int32) (p1 : Int64) (σ : CS) : Option ((Nat ⊕ Int64) × CS) :=
  b2 (FX10_isItem (0 : Int32) p0 σ) fun r_1 σ_1 =>
  if r_1 = 0 then
    some (.inl 2, σ_1)
  else
    some (.inr (getL 8 (σ_1.2.2.2.1 58) p0), (tB σ_1 58 (putL 8 (σ_1.2.2.2.1 58) p0 p1)))
abbrev rmX10_set : Room := { frames := 6, cells := 1, slots := 6, locals := 82 }
set_option maxRecDepth 100000 in
set_option maxHeartbeats 4000000 in
theorem kX10_set {l : Launch} {D : va_G} {cI cJ cQ : ClassId} {ad : Nat → Nat} {ra : Nat → Nat → Nat} {adK adV tK : Nat → Nat} {p0 : Int32} {p1 : Int64} {σ σ' : CS} {r : Nat ⊕ Int64} (hl9 : l.stackTraces = false) (h : FX10_set p0 p1 σ = some (r, σ')) : gMetX l yX10_set qX10_set rmX10_set D vwCl [(cI, .int), (cJ, .long), (cQ, .array .long)] (xKS adK adV tK) [.ref (ad 0), .int p0, .long p1] (CW cI cJ cQ ad ra σ) (CW cI cJ cQ ad ra σ') (xvL r) := by
  refine gMetX.of (cc := cX10_set) (maxL := 6) (ret := (some .long)) (by decide) rfl (Nat.le_of_ble_eq_true rfl) ?_
  intro p e s m args below meth c S hr hlk hnm ht hK hKS hA hB ls hl
  have hl : lv_has ls 6 [(0, .ref (ad 0)), (1, .int p0), (2, .long p1)] := hl
  replace S : CallFix p m c cX10_set 6 s args (_ :: wsL_law) RX10 := S
  rw [FX10_set] at h
  refine lv_aload_n S.1 S.2.1 dX10_set_0 rfl (lv_at hl 0 rfl) ?_
  refine lv_iconst (v := (0 : Int32)) S.1 S.2.1 dX10_set_1 (by decide) ?_
  refine lv_iload_n S.1 S.2.1 dX10_set_2 rfl (lv_at hl 1 rfl) ?_
  obtain ⟨r_1, σ_1, e_1, h⟩ := b2s h
  refine cCallI S hK xKSc hKS hA (gMet.weak (kX10_isItem e_1) (fun _ _ q => q.1)) (cwX10_144 S.2.2.2.2 (rm := rmX10_isItem) rfl rfl ⟨Nat.le_of_ble_eq_true rfl, Nat.le_of_ble_eq_true rfl⟩) hB 0 rfl rfl rfl hl.1 rfl (lv_room (Nat.le_of_ble_eq_true rfl)) dX10_set_3 ⟨by decide, by decide⟩ (fun H locs hB => ?_)
  refine lv_if_ne (tgt := 19) S.1 S.2.1 dX10_set_6 (by decide) (fun c_2 => ?_) (fun c_2 => ?_)
  · replace h := (if_neg c_2).symm.trans h
    refine lv_aload_n S.1 S.2.1 dX10_set_19 rfl (lv_at hl 0 rfl) ?_
    refine tg_0_8 S hK hB (S.2.2.2.2 _ (List.mem_cons_of_mem _ wf_X10_72)) dX10_set_20 ?_
    refine lv_iload_n S.1 S.2.1 dX10_set_23 rfl (lv_at hl 1 rfl) ?_
    refine lg_57 (r := (getL 8 (σ_1.2.2.2.1 58) p0)) S hK xKSc hKS hA hB rfl (cwX10_150 S.2.2.2.2 (rm := { frames := 0, cells := 0, slots := 0, locals := 0 }) rfl rfl ⟨Nat.le_of_ble_eq_true rfl, Nat.le_of_ble_eq_true rfl⟩) hl.1 (lv_room (Nat.le_of_ble_eq_true rfl)) dX10_set_24 ⟨Nat.zero_le _, Nat.zero_le _⟩ (fun H locs hB => ?_)
    refine lv_lstore (lv' := [(4, .long (getL 8 (σ_1.2.2.2.1 58) p0)), (0, .ref (ad 0)), (1, .int p0), (2, .long p1)]) S.1 S.2.1 dX10_set_27 hl (by decide) rfl (fun ls hl => ?_)
    refine lv_aload_n S.1 S.2.1 dX10_set_29 rfl (lv_at hl 1 rfl) ?_
    refine tg_0_8 S hK hB (S.2.2.2.2 _ (List.mem_cons_of_mem _ wf_X10_72)) dX10_set_30 ?_
    refine lv_iload_n S.1 S.2.1 dX10_set_33 rfl (lv_at hl 2 rfl) ?_
    refine lv_lload_n S.1 S.2.1 dX10_set_34 rfl (lv_at hl 3 rfl) ?_
    refine lp_57 S hK xKSc hKS hA hB (cwX10_154 S.2.2.2.2 (rm := { frames := 0, cells := 0, slots := 0, locals := 0 }) rfl rfl ⟨Nat.le_of_ble_eq_true rfl, Nat.le_of_ble_eq_true rfl⟩) hl.1 (lv_room (Nat.le_of_ble_eq_true rfl)) dX10_set_35 ⟨Nat.zero_le _, Nat.zero_le _⟩ (fun H locs hB => ?_)
    refine lv_lload S.1 S.2.1 dX10_set_38 (lv_at hl 0 rfl) ?_
    refine W.widen (k := 1) (n := 6) (by decide) (by decide) ?_
    cases h
    exact gXret (gRetL S.1 S.2.1 hr hlk hB dX10_set_40)
  · replace h := (if_pos c_2).symm.trans h
    cases h
    exact xThr_2 S hl9 hlk ht hKS hB hl.1 (text := "no such signal") (List.mem_of_getElem? (i := 56) rfl) dX10_set_9 dX10_set_12 dX10_set_13 dX10_set_15 dX10_set_18 (Nat.le_of_ble_eq_true rfl) (Nat.le_of_ble_eq_true rfl) (Nat.le_of_ble_eq_true rfl) (Nat.le_of_ble_eq_true rfl)
def FX10_tick_11 (L : Nat)   (σ1 : CS) : Option ((Nat ⊕ Int32) × CS) :=
    some (.inl 1, σ1)
def FX10_tick_43 (L : Nat)   (σ1 : CS) : Option ((Nat ⊕ Int32) × CS) :=
    some (.inl 0, σ1)
def FX10_tick (L : Nat) (p0 : Int32) (σ : CS) : Option ((Nat ⊕ Int32) × CS) :=
  if p0 < 0 then
    FX10_tick_11 L σ
  else
    if p0 ≤ (1000 : Int32) then
      if (σ.1 2808) = 0 then
        FX10_tick_43 L σ
      else
        if (σ.1 4402) < (120 : Int32) then
          b2 (FX0_lastTime σ) fun r_5 σ_5 =>
          b2 (FX10_doStep L (r_5 + p0) σ_5) fun (_ : Unit) σ_6 =>
          b2 (FX10_broken L (0 : Int32) σ_6) fun r_7 σ_7 =>
          some (.inr r_7, σ_7)
        else
          FX10_tick_43 L σ
    else
      FX10_tick_11 L σ
abbrev rmX10_tick : Room := { frames := 7, cells := 1, slots := 6, locals := 167 }
set_option maxRecDepth 100000 in
set_option maxHeartbeats 4000000 in
theorem kX10_tick {l : Launch} {D : va_G} {cI cJ cQ : ClassId} {ad : Nat → Nat} {ra : Nat → Nat → Nat} {adK adV tK : Nat → Nat} {L : Nat} {p0 : Int32} {σ σ' : CS} {r : Nat ⊕ Int32} (hl9 : l.stackTraces = false) (h : FX10_tick L p0 σ = some (r, σ')) : gMetX l yX10_tick qX10_tick rmX10_tick D vwCl [(cI, .int), (cJ, .long), (cQ, .array .long)] (xKS adK adV tK) [.ref (ad 0), .int p0] (CW cI cJ cQ ad ra σ) (CW cI cJ cQ ad ra σ') (xvI r) := by
  refine gMetX.of (cc := cX10_tick) (maxL := 2) (ret := (some .int)) (by decide) rfl (Nat.le_of_ble_eq_true rfl) ?_
  intro p e s m args below meth c S hr hlk hnm ht hK hKS hA hB ls hl
  have hl : lv_has ls 2 [(0, .ref (ad 0)), (1, .int p0)] := hl
  replace S : CallFix p m c cX10_tick 2 s args (_ :: wsL_law) RX10 := S
  rw [FX10_tick] at h
  have P11 : ∀  (σ1 : CS) (H : Heap) (locs : List Loc) (ls : Array Slot), FX10_tick_11 L  σ1 = some (r, σ') → gB D vwCl (va_A (CW cI cJ cQ ad ra σ) s.heap.size) s.heap (CW cI cJ cQ ad ra σ1) [] H locs → lv_has ls 2 [] → W p l e rmX10_tick s m args below meth c H locs 0 0 (vx_MQ below (gXQ D vwCl (CW cI cJ cQ ad ra σ) (CW cI cJ cQ ad ra σ') (xvI r) s.heap.size) (gXC D vwCl (CW cI cJ cQ ad ra σ) (CW cI cJ cQ ad ra σ') (xvI r) s.heap.size) args s 1 6 (va_A (CW cI cJ cQ ad ra σ) s.heap.size)) (F0 m 11 ls []) := by
    intro   σ1 H locs ls h hB hl
    rw [FX10_tick_11] at h
    cases h
    exact xThr_1 S hl9 hlk ht hKS hB hl.1 (text := "not 0 to 1000") (List.mem_of_getElem? (i := 57) rfl) dX10_tick_11 dX10_tick_14 dX10_tick_15 dX10_tick_17 dX10_tick_20 (Nat.le_of_ble_eq_true rfl) (Nat.le_of_ble_eq_true rfl) (Nat.le_of_ble_eq_true rfl) (Nat.le_of_ble_eq_true rfl)
  have P43 : ∀  (σ1 : CS) (H : Heap) (locs : List Loc) (ls : Array Slot), FX10_tick_43 L  σ1 = some (r, σ') → gB D vwCl (va_A (CW cI cJ cQ ad ra σ) s.heap.size) s.heap (CW cI cJ cQ ad ra σ1) [] H locs → lv_has ls 2 [] → W p l e rmX10_tick s m args below meth c H locs 0 0 (vx_MQ below (gXQ D vwCl (CW cI cJ cQ ad ra σ) (CW cI cJ cQ ad ra σ') (xvI r) s.heap.size) (gXC D vwCl (CW cI cJ cQ ad ra σ) (CW cI cJ cQ ad ra σ') (xvI r) s.heap.size) args s 1 6 (va_A (CW cI cJ cQ ad ra σ) s.heap.size)) (F0 m 43 ls []) := by
    intro   σ1 H locs ls h hB hl
    rw [FX10_tick_43] at h
    cases h
    exact xThr_0 S hl9 hlk ht hKS hB hl.1 (text := "no program, or no room for a step") (List.mem_of_getElem? (i := 58) rfl) dX10_tick_43 dX10_tick_46 dX10_tick_47 dX10_tick_49 dX10_tick_52 (Nat.le_of_ble_eq_true rfl) (Nat.le_of_ble_eq_true rfl) (Nat.le_of_ble_eq_true rfl) (Nat.le_of_ble_eq_true rfl)
  refine lv_iload_n S.1 S.2.1 dX10_tick_0 rfl (lv_at hl 1 rfl) ?_
  refine lv_if_lt (tgt := 11) S.1 S.2.1 dX10_tick_1 (by decide) (fun c_1 => ?_) (fun c_1 => ?_)
  · replace h := (if_pos c_1).symm.trans h
    exact P11  _ _ _ _ h hB (lv_sub hl [] rfl)
  · replace h := (if_neg c_1).symm.trans h
    refine lv_iload_n S.1 S.2.1 dX10_tick_4 rfl (lv_at hl 1 rfl) ?_
    refine lv_sipush (v := (1000 : Int32)) S.1 S.2.1 dX10_tick_5 (by decide) ?_
    refine lv_icmp_le (tgt := 21) S.1 S.2.1 dX10_tick_8 (by decide) (fun c_2 => ?_) (fun c_2 => ?_)
    · replace h := (if_pos c_2).symm.trans h
      refine lv_aload_n S.1 S.2.1 dX10_tick_21 rfl (lv_at hl 0 rfl) ?_
      refine tg_0_3 S hK hB (S.2.2.2.2 _ (List.mem_cons_of_mem _ wf_X10_35)) dX10_tick_22 ?_
      refine tgN_28_8 S hK hB (nF hKS.1 21 rfl) rfl dX10_tick_25 ?_
      refine lv_if_eq (tgt := 43) S.1 S.2.1 dX10_tick_28 (by decide) (fun c_3 => ?_) (fun c_3 => ?_)
      · replace h := (if_pos c_3).symm.trans h
        exact P43  _ _ _ _ h hB (lv_sub hl [] rfl)
      · replace h := (if_neg c_3).symm.trans h
        refine lv_aload_n S.1 S.2.1 dX10_tick_31 rfl (lv_at hl 0 rfl) ?_
        refine tg_0_5 S hK hB (S.2.2.2.2 _ (List.mem_cons_of_mem _ wf_X10_51)) dX10_tick_32 ?_
        refine tgN_44_2 S hK hB (nF hKS.1 29 rfl) rfl dX10_tick_35 ?_
        refine lv_bipush (v := (120 : Int32)) S.1 S.2.1 dX10_tick_38 (by decide) ?_
        refine lv_icmp_lt (tgt := 53) S.1 S.2.1 dX10_tick_40 (by decide) (fun c_4 => ?_) (fun c_4 => ?_)
        · replace h := (if_pos c_4).symm.trans h
          refine lv_aload_n S.1 S.2.1 dX10_tick_53 rfl (lv_at hl 0 rfl) ?_
          refine lv_aload_n S.1 S.2.1 dX10_tick_54 rfl (lv_at hl 0 rfl) ?_
          refine tg_0_5 S hK hB (S.2.2.2.2 _ (List.mem_cons_of_mem _ wf_X10_51)) dX10_tick_55 ?_
          obtain ⟨r_5, σ_5, e_5, h⟩ := b2s h
          refine cCallI S hK xKSc hKS hA (gMet.weak (kX0_lastTime e_5) (fun _ _ q => q.1)) (cwX10_165 S.2.2.2.2 (rm := rmX0_lastTime) rfl rfl ⟨Nat.le_of_ble_eq_true rfl, Nat.le_of_ble_eq_true rfl⟩) hB 44 rfl rfl rfl hl.1 rfl (lv_room (Nat.le_of_ble_eq_true rfl)) dX10_tick_58 ⟨by decide, by decide⟩ (fun H locs hB => ?_)
          refine lv_iload_n S.1 S.2.1 dX10_tick_61 rfl (lv_at hl 1 rfl) ?_
          refine lv_iadd S.1 S.2.1 dX10_tick_62 ?_
          obtain ⟨_, σ_6, e_6, h⟩ := b2s h
          refine cCallV S hK xKSc hKS hA (gMet.weak (kX10_doStep e_6) (fun _ _ q => q.1)) (cwX10_169 S.2.2.2.2 (rm := rmX10_doStep) rfl rfl ⟨Nat.le_of_ble_eq_true rfl, Nat.le_of_ble_eq_true rfl⟩) hB 0 rfl rfl rfl hl.1 rfl (lv_room (Nat.le_of_ble_eq_true rfl)) dX10_tick_63 ⟨by decide, by decide⟩ (fun H locs hB => ?_)
          refine lv_aload_n S.1 S.2.1 dX10_tick_66 rfl (lv_at hl 0 rfl) ?_
          refine lv_iconst (v := (0 : Int32)) S.1 S.2.1 dX10_tick_67 (by decide) ?_
          obtain ⟨r_7, σ_7, e_7, h⟩ := b2s h
          refine cCallI S hK xKSc hKS hA (gMet.weak (kX10_broken e_7) (fun _ _ q => q.1)) (cwX10_172 S.2.2.2.2 (rm := rmX10_broken) rfl rfl ⟨Nat.le_of_ble_eq_true rfl, Nat.le_of_ble_eq_true rfl⟩) hB 0 rfl rfl rfl hl.1 rfl (lv_room (Nat.le_of_ble_eq_true rfl)) dX10_tick_68 ⟨by decide, by decide⟩ (fun H locs hB => ?_)
          refine W.widen (k := 1) (n := 6) (by decide) (by decide) ?_
          cases h
          exact gXret (gRetI S.1 S.2.1 hr hlk hB dX10_tick_71)
        · replace h := (if_neg c_4).symm.trans h
          exact P43  _ _ _ _ h hB (lv_sub hl [] rfl)
    · replace h := (if_neg c_2).symm.trans h
      exact P11  _ _ _ _ h hB (lv_sub hl [] rfl)
def FX10_back_15   (σ1 : CS) : Option ((Nat ⊕ Int32) × CS) :=
    some (.inl 1, σ1)
def FX10_back (p0 : Int32) (σ : CS) : Option ((Nat ⊕ Int32) × CS) :=
  if p0 < 0 then
    FX10_back_15 σ
  else
    if p0 ≤ (σ.1 4402) then
      b2 (FX0_lastTime (tI σ 4402 p0)) fun r_3 σ_3 =>
      some (.inr r_3, σ_3)
    else
      FX10_back_15 σ
abbrev rmX10_back : Room := { frames := 6, cells := 1, slots := 6, locals := 82 }
set_option maxRecDepth 100000 in
set_option maxHeartbeats 4000000 in
theorem kX10_back {l : Launch} {D : va_G} {cI cJ cQ : ClassId} {ad : Nat → Nat} {ra : Nat → Nat → Nat} {adK adV tK : Nat → Nat} {p0 : Int32} {σ σ' : CS} {r : Nat ⊕ Int32} (hl9 : l.stackTraces = false) (h : FX10_back p0 σ = some (r, σ')) : gMetX l yX10_back qX10_back rmX10_back D vwCl [(cI, .int), (cJ, .long), (cQ, .array .long)] (xKS adK adV tK) [.ref (ad 0), .int p0] (CW cI cJ cQ ad ra σ) (CW cI cJ cQ ad ra σ') (xvI r) := by
  refine gMetX.of (cc := cX10_back) (maxL := 2) (ret := (some .int)) (by decide) rfl (Nat.le_of_ble_eq_true rfl) ?_
  intro p e s m args below meth c S hr hlk hnm ht hK hKS hA hB ls hl
  have hl : lv_has ls 2 [(0, .ref (ad 0)), (1, .int p0)] := hl
  replace S : CallFix p m c cX10_back 2 s args (_ :: wsL_law) RX10 := S
  rw [FX10_back] at h
  have P15 : ∀  (σ1 : CS) (H : Heap) (locs : List Loc) (ls : Array Slot), FX10_back_15  σ1 = some (r, σ') → gB D vwCl (va_A (CW cI cJ cQ ad ra σ) s.heap.size) s.heap (CW cI cJ cQ ad ra σ1) [] H locs → lv_has ls 2 [] → W p l e rmX10_back s m args below meth c H locs 0 0 (vx_MQ below (gXQ D vwCl (CW cI cJ cQ ad ra σ) (CW cI cJ cQ ad ra σ') (xvI r) s.heap.size) (gXC D vwCl (CW cI cJ cQ ad ra σ) (CW cI cJ cQ ad ra σ') (xvI r) s.heap.size) args s 1 6 (va_A (CW cI cJ cQ ad ra σ) s.heap.size)) (F0 m 15 ls []) := by
    intro   σ1 H locs ls h hB hl
    rw [FX10_back_15] at h
    cases h
    exact xThr_1 S hl9 hlk ht hKS hB hl.1 (text := "not 0 to the number of steps") (List.mem_of_getElem? (i := 59) rfl) dX10_back_15 dX10_back_18 dX10_back_19 dX10_back_21 dX10_back_24 (Nat.le_of_ble_eq_true rfl) (Nat.le_of_ble_eq_true rfl) (Nat.le_of_ble_eq_true rfl) (Nat.le_of_ble_eq_true rfl)
  refine lv_iload_n S.1 S.2.1 dX10_back_0 rfl (lv_at hl 1 rfl) ?_
  refine lv_if_lt (tgt := 15) S.1 S.2.1 dX10_back_1 (by decide) (fun c_1 => ?_) (fun c_1 => ?_)
  · replace h := (if_pos c_1).symm.trans h
    exact P15  _ _ _ _ h hB (lv_sub hl [] rfl)
  · replace h := (if_neg c_1).symm.trans h
    refine lv_iload_n S.1 S.2.1 dX10_back_4 rfl (lv_at hl 1 rfl) ?_
    refine lv_aload_n S.1 S.2.1 dX10_back_5 rfl (lv_at hl 0 rfl) ?_
    refine tg_0_5 S hK hB (S.2.2.2.2 _ (List.mem_cons_of_mem _ wf_X10_51)) dX10_back_6 ?_
    refine tgN_44_2 S hK hB (nF hKS.1 29 rfl) rfl dX10_back_9 ?_
    refine lv_icmp_le (tgt := 25) S.1 S.2.1 dX10_back_12 (by decide) (fun c_2 => ?_) (fun c_2 => ?_)
    · replace h := (if_pos c_2).symm.trans h
      refine lv_aload_n S.1 S.2.1 dX10_back_25 rfl (lv_at hl 0 rfl) ?_
      refine tg_0_5 S hK hB (S.2.2.2.2 _ (List.mem_cons_of_mem _ wf_X10_51)) dX10_back_26 ?_
      refine lv_iload_n S.1 S.2.1 dX10_back_29 rfl (lv_at hl 1 rfl) ?_
      refine tpN_44_2 S hK hB (nF hKS.1 29 rfl) dX10_back_30 (fun H locs hB => ?_)
      refine lv_aload_n S.1 S.2.1 dX10_back_33 rfl (lv_at hl 0 rfl) ?_
      refine tg_0_5 S hK hB (S.2.2.2.2 _ (List.mem_cons_of_mem _ wf_X10_51)) dX10_back_34 ?_
      obtain ⟨r_3, σ_3, e_3, h⟩ := b2s h
      refine cCallI S hK xKSc hKS hA (gMet.weak (kX0_lastTime e_3) (fun _ _ q => q.1)) (cwX10_165 S.2.2.2.2 (rm := rmX0_lastTime) rfl rfl ⟨Nat.le_of_ble_eq_true rfl, Nat.le_of_ble_eq_true rfl⟩) hB 44 rfl rfl rfl hl.1 rfl (lv_room (Nat.le_of_ble_eq_true rfl)) dX10_back_37 ⟨by decide, by decide⟩ (fun H locs hB => ?_)
      refine W.widen (k := 1) (n := 6) (by decide) (by decide) ?_
      cases h
      exact gXret (gRetI S.1 S.2.1 hr hlk hB dX10_back_40)
    · replace h := (if_neg c_2).symm.trans h
      exact P15  _ _ _ _ h hB (lv_sub hl [] rfl)
def FX10_restart (L : Nat)  (σ : CS) : Option ((Nat ⊕ Int32) × CS) :=
  if (σ.1 2808) = 0 then
    some (.inl 0, σ)
  else
    b2 (FX10_begin L σ) fun (_ : Unit) σ_2 =>
    b2 (FX10_howMany (3 : Int32) σ_2) fun r_3 σ_3 =>
    some (.inr r_3, σ_3)
abbrev rmX10_restart : Room := { frames := 6, cells := 1, slots := 6, locals := 82 }
def FX10_replay_60 (L : Nat) (k46 : Int32 → Int32 → Int32 → CS → Option ((Nat ⊕ Int32) × CS)) : Nat → Int32 → Int32 → Int32 → Int32 → CS → Option ((Nat ⊕ Int32) × CS)
  | 0, _, _, _, _, _ => none
  | n+1, x1, x2, x3, x4, σ1 =>
    if x1 ≤ x4 then
      b2 (FX10_doStep L (getI 120 (σ1.2.2.1 51) x3) σ1) fun (_ : Unit) σ_5 =>
      b2 (FX10_broken L (0 : Int32) σ_5) fun r_6 σ_6 =>
      if r_6 = 0 then
        k46 x1 (x2 + (1 : Int32)) (x3 + (1 : Int32)) σ_6
      else
        k46 x1 x2 (x3 + (1 : Int32)) σ_6
    else
      (FX10_replay_60 L k46 n) x1 x2 x3 (x4 + (1 : Int32)) (tB σ1 58 (putL 8 (σ1.2.2.2.1 58) x4 (getT 8 (σ1.2.2.2.2 1) x4 x3)))
def FX10_replay_46 (L : Nat)  : Nat → Int32 → Int32 → Int32 → CS → Option ((Nat ⊕ Int32) × CS)
  | 0, _, _, _, _ => none
  | n+1, x1, x2, x3, σ1 =>
    if (σ1.1 4902) ≤ x3 then
      some (.inr x2, σ1)
    else
      FX10_replay_60 L (FX10_replay_46 L n) L x1 x2 x3 (0 : Int32) σ1
def FX10_replay (L : Nat)  (σ : CS) : Option ((Nat ⊕ Int32) × CS) :=
  if (σ.1 2808) = 0 then
    some (.inl 0, σ)
  else
    b2 (FX10_begin L σ) fun (_ : Unit) σ_2 =>
    FX10_replay_46 L L (if (σ_2.1 4403) < (σ_2.1 4903) then (σ_2.1 4403) else (σ_2.1 4903)) (0 : Int32) (0 : Int32) σ_2
abbrev rmX10_replay : Room := { frames := 7, cells := 1, slots := 6, locals := 167 }
set_option maxRecDepth 100000 in
set_option maxHeartbeats 4000000 in
theorem kX10_replay {l : Launch} {D : va_G} {cI cJ cQ : ClassId} {ad : Nat → Nat} {ra : Nat → Nat → Nat} {adK adV tK : Nat → Nat} {L : Nat}  {σ σ' : CS} {r : Nat ⊕ Int32} (hl9 : l.stackTraces = false) (h : FX10_replay L  σ = some (r, σ')) : gMetX l yX10_replay qX10_replay rmX10_replay D vwCl [(cI, .int), (cJ, .long), (cQ, .array .long)] (xKS adK adV tK) [.ref (ad 0)] (CW cI cJ cQ ad ra σ) (CW cI cJ cQ ad ra σ') (xvI r) := by
  refine gMetX.of (cc := cX10_replay) (maxL := 5) (ret := (some .int)) (by decide) rfl (Nat.le_of_ble_eq_true rfl) ?_
  intro p e s m args below meth c S hr hlk hnm ht hK hKS hA hB ls hl
  have hl : lv_has ls 5 [(0, .ref (ad 0))] := hl
  replace S : CallFix p m c cX10_replay 5 s args (_ :: wsL_law) RX10 := S
  rw [FX10_replay] at h
  have P60 : ∀ (k46 : Int32 → Int32 → Int32 → CS → Option ((Nat ⊕ Int32) × CS)) (hk46 : ∀ (x1 : Int32) (x2 : Int32) (x3 : Int32) (σ1 : CS) (H : Heap) (locs : List Loc) (ls : Array Slot), k46 x1 x2 x3 σ1 = some (r, σ') → gB D vwCl (va_A (CW cI cJ cQ ad ra σ) s.heap.size) s.heap (CW cI cJ cQ ad ra σ1) [] H locs → lv_has ls 5 [(0, .ref (ad 0)), (1, .int x1), (2, .int x2), (3, .int x3)] → W p l e rmX10_replay s m args below meth c H locs 0 0 (vx_MQ below (gXQ D vwCl (CW cI cJ cQ ad ra σ) (CW cI cJ cQ ad ra σ') (xvI r) s.heap.size) (gXC D vwCl (CW cI cJ cQ ad ra σ) (CW cI cJ cQ ad ra σ') (xvI r) s.heap.size) args s 1 6 (va_A (CW cI cJ cQ ad ra σ) s.heap.size)) (F0 m 46 ls [])) (n : Nat), ∀ (x1 : Int32) (x2 : Int32) (x3 : Int32) (x4 : Int32) (σ1 : CS) (H : Heap) (locs : List Loc) (ls : Array Slot), FX10_replay_60 L k46 n x1 x2 x3 x4 σ1 = some (r, σ') → gB D vwCl (va_A (CW cI cJ cQ ad ra σ) s.heap.size) s.heap (CW cI cJ cQ ad ra σ1) [] H locs → lv_has ls 5 [(0, .ref (ad 0)), (1, .int x1), (2, .int x2), (3, .int x3), (4, .int x4)] → W p l e rmX10_replay s m args below meth c H locs 0 0 (vx_MQ below (gXQ D vwCl (CW cI cJ cQ ad ra σ) (CW cI cJ cQ ad ra σ') (xvI r) s.heap.size) (gXC D vwCl (CW cI cJ cQ ad ra σ) (CW cI cJ cQ ad ra σ') (xvI r) s.heap.size) args s 1 6 (va_A (CW cI cJ cQ ad ra σ) s.heap.size)) (F0 m 60 ls []) := by
    intro k46 hk46
    intro n
    induction n with
    | zero => intro x1 x2 x3 x4 σ1 H locs ls h; simp only [FX10_replay_60] at h; cases h
    | succ n ih =>
      intro x1 x2 x3 x4 σ1 H locs ls h hB hl
      rw [FX10_replay_60] at h
      refine lv_iload S.1 S.2.1 dX10_replay_60 (lv_at hl 4 rfl) ?_
      refine lv_iload_n S.1 S.2.1 dX10_replay_62 rfl (lv_at hl 1 rfl) ?_
      refine lv_icmp_ge (tgt := 94) S.1 S.2.1 dX10_replay_63 (by decide) (fun c_4 => ?_) (fun c_4 => ?_)
      · replace h := (if_pos c_4).symm.trans h
        refine lv_aload_n S.1 S.2.1 dX10_replay_94 rfl (lv_at hl 0 rfl) ?_
        refine lv_aload_n S.1 S.2.1 dX10_replay_95 rfl (lv_at hl 0 rfl) ?_
        refine tg_0_6 S hK hB (S.2.2.2.2 _ (List.mem_cons_of_mem _ wf_X10_55)) dX10_replay_96 ?_
        refine tgN_49_0 S hK hB (nF hKS.1 26 rfl) dX10_replay_99 ?_
        refine lv_iload_n S.1 S.2.1 dX10_replay_102 rfl (lv_at hl 3 rfl) ?_
        refine lg_50 (r := (getI 120 (σ1.2.2.1 51) x3)) S hK xKSc hKS hA hB rfl (cwX10_205 S.2.2.2.2 (rm := { frames := 0, cells := 0, slots := 0, locals := 0 }) rfl rfl ⟨Nat.le_of_ble_eq_true rfl, Nat.le_of_ble_eq_true rfl⟩) hl.1 (lv_room (Nat.le_of_ble_eq_true rfl)) dX10_replay_103 ⟨Nat.zero_le _, Nat.zero_le _⟩ (fun H locs hB => ?_)
        obtain ⟨_, σ_5, e_5, h⟩ := b2s h
        refine cCallV S hK xKSc hKS hA (gMet.weak (kX10_doStep e_5) (fun _ _ q => q.1)) (cwX10_169 S.2.2.2.2 (rm := rmX10_doStep) rfl rfl ⟨Nat.le_of_ble_eq_true rfl, Nat.le_of_ble_eq_true rfl⟩) hB 0 rfl rfl rfl hl.1 rfl (lv_room (Nat.le_of_ble_eq_true rfl)) dX10_replay_106 ⟨by decide, by decide⟩ (fun H locs hB => ?_)
        refine lv_aload_n S.1 S.2.1 dX10_replay_109 rfl (lv_at hl 0 rfl) ?_
        refine lv_iconst (v := (0 : Int32)) S.1 S.2.1 dX10_replay_110 (by decide) ?_
        obtain ⟨r_6, σ_6, e_6, h⟩ := b2s h
        refine cCallI S hK xKSc hKS hA (gMet.weak (kX10_broken e_6) (fun _ _ q => q.1)) (cwX10_172 S.2.2.2.2 (rm := rmX10_broken) rfl rfl ⟨Nat.le_of_ble_eq_true rfl, Nat.le_of_ble_eq_true rfl⟩) hB 0 rfl rfl rfl hl.1 rfl (lv_room (Nat.le_of_ble_eq_true rfl)) dX10_replay_111 ⟨by decide, by decide⟩ (fun H locs hB => ?_)
        refine lv_if_ne (tgt := 120) S.1 S.2.1 dX10_replay_114 (by decide) (fun c_7 => ?_) (fun c_7 => ?_)
        · replace h := (if_neg c_7).symm.trans h
          refine lv_iinc (v := (x3 + (1 : Int32))) (lv' := [(3, .int (x3 + (1 : Int32))), (0, .ref (ad 0)), (1, .int x1), (2, .int x2), (4, .int x4)]) S.1 S.2.1 dX10_replay_120 hl (k := 3) rfl rfl (by decide) rfl (fun ls hl => ?_)
          refine lv_goto (tgt := 46) S.1 S.2.1 dX10_replay_123 (by decide) ?_
          exact hk46 _ _ _ _ _ _ _ h hB (lv_sub hl [1, 2, 3, 0] rfl)
        · replace h := (if_pos c_7).symm.trans h
          refine lv_iinc (v := (x2 + (1 : Int32))) (lv' := [(2, .int (x2 + (1 : Int32))), (0, .ref (ad 0)), (1, .int x1), (3, .int x3), (4, .int x4)]) S.1 S.2.1 dX10_replay_117 hl (k := 2) rfl rfl (by decide) rfl (fun ls hl => ?_)
          refine lv_iinc (v := (x3 + (1 : Int32))) (lv' := [(3, .int (x3 + (1 : Int32))), (2, .int (x2 + (1 : Int32))), (0, .ref (ad 0)), (1, .int x1), (4, .int x4)]) S.1 S.2.1 dX10_replay_120 hl (k := 3) rfl rfl (by decide) rfl (fun ls hl => ?_)
          refine lv_goto (tgt := 46) S.1 S.2.1 dX10_replay_123 (by decide) ?_
          exact hk46 _ _ _ _ _ _ _ h hB (lv_sub hl [2, 3, 1, 0] rfl)
      · replace h := (if_neg c_4).symm.trans h
        refine lv_aload_n S.1 S.2.1 dX10_replay_66 rfl (lv_at hl 0 rfl) ?_
        refine tg_0_8 S hK hB (S.2.2.2.2 _ (List.mem_cons_of_mem _ wf_X10_72)) dX10_replay_67 ?_
        refine lv_iload S.1 S.2.1 dX10_replay_70 (lv_at hl 4 rfl) ?_
        refine lv_aload_n S.1 S.2.1 dX10_replay_72 rfl (lv_at hl 0 rfl) ?_
        refine tg_0_6 S hK hB (S.2.2.2.2 _ (List.mem_cons_of_mem _ wf_X10_55)) dX10_replay_73 ?_
        refine tgN_49_1 S hK hB (nF hKS.1 27 rfl) dX10_replay_76 ?_
        refine lv_iload S.1 S.2.1 dX10_replay_79 (lv_at hl 4 rfl) ?_
        refine lv_iload_n S.1 S.2.1 dX10_replay_81 rfl (lv_at hl 3 rfl) ?_
        refine lg_52 (r := (getT 8 (σ1.2.2.2.2 1) x4 x3)) S hK xKSc hKS hA hB rfl (cwX10_196 S.2.2.2.2 (rm := { frames := 0, cells := 0, slots := 0, locals := 0 }) rfl rfl ⟨Nat.le_of_ble_eq_true rfl, Nat.le_of_ble_eq_true rfl⟩) hl.1 (lv_room (Nat.le_of_ble_eq_true rfl)) dX10_replay_82 ⟨Nat.zero_le _, Nat.zero_le _⟩ (fun H locs hB => ?_)
        refine lp_57 S hK xKSc hKS hA hB (cwX10_154 S.2.2.2.2 (rm := { frames := 0, cells := 0, slots := 0, locals := 0 }) rfl rfl ⟨Nat.le_of_ble_eq_true rfl, Nat.le_of_ble_eq_true rfl⟩) hl.1 (lv_room (Nat.le_of_ble_eq_true rfl)) dX10_replay_85 ⟨Nat.zero_le _, Nat.zero_le _⟩ (fun H locs hB => ?_)
        refine lv_iinc (v := (x4 + (1 : Int32))) (lv' := [(4, .int (x4 + (1 : Int32))), (0, .ref (ad 0)), (1, .int x1), (2, .int x2), (3, .int x3)]) S.1 S.2.1 dX10_replay_88 hl (k := 4) rfl rfl (by decide) rfl (fun ls hl => ?_)
        refine lv_goto (tgt := 60) S.1 S.2.1 dX10_replay_91 (by decide) ?_
        exact ih _ _ _ _ _ _ _ _ h hB (lv_sub hl [1, 2, 3, 4, 0] rfl)
  have P46 : ∀  (n : Nat), ∀ (x1 : Int32) (x2 : Int32) (x3 : Int32) (σ1 : CS) (H : Heap) (locs : List Loc) (ls : Array Slot), FX10_replay_46 L n x1 x2 x3 σ1 = some (r, σ') → gB D vwCl (va_A (CW cI cJ cQ ad ra σ) s.heap.size) s.heap (CW cI cJ cQ ad ra σ1) [] H locs → lv_has ls 5 [(0, .ref (ad 0)), (1, .int x1), (2, .int x2), (3, .int x3)] → W p l e rmX10_replay s m args below meth c H locs 0 0 (vx_MQ below (gXQ D vwCl (CW cI cJ cQ ad ra σ) (CW cI cJ cQ ad ra σ') (xvI r) s.heap.size) (gXC D vwCl (CW cI cJ cQ ad ra σ) (CW cI cJ cQ ad ra σ') (xvI r) s.heap.size) args s 1 6 (va_A (CW cI cJ cQ ad ra σ) s.heap.size)) (F0 m 46 ls []) := by
    intro n
    induction n with
    | zero => intro x1 x2 x3 σ1 H locs ls h; simp only [FX10_replay_46] at h; cases h
    | succ n ih =>
      intro x1 x2 x3 σ1 H locs ls h hB hl
      rw [FX10_replay_46] at h
      refine lv_iload_n S.1 S.2.1 dX10_replay_46 rfl (lv_at hl 3 rfl) ?_
      refine lv_aload_n S.1 S.2.1 dX10_replay_47 rfl (lv_at hl 0 rfl) ?_
      refine tg_0_6 S hK hB (S.2.2.2.2 _ (List.mem_cons_of_mem _ wf_X10_55)) dX10_replay_48 ?_
      refine tgN_49_2 S hK hB (nF hKS.1 29 rfl) rfl dX10_replay_51 ?_
      refine lv_icmp_ge (tgt := 126) S.1 S.2.1 dX10_replay_54 (by decide) (fun c_3 => ?_) (fun c_3 => ?_)
      · replace h := (if_pos c_3).symm.trans h
        refine lv_iload_n S.1 S.2.1 dX10_replay_126 rfl (lv_at hl 2 rfl) ?_
        refine W.widen (k := 1) (n := 6) (by decide) (by decide) ?_
        cases h
        exact gXret (gRetI S.1 S.2.1 hr hlk hB dX10_replay_127)
      · replace h := (if_neg c_3).symm.trans h
        refine lv_iconst (v := (0 : Int32)) S.1 S.2.1 dX10_replay_57 (by decide) ?_
        refine lv_istore (lv' := [(4, .int (0 : Int32)), (0, .ref (ad 0)), (1, .int x1), (2, .int x2), (3, .int x3)]) S.1 S.2.1 dX10_replay_58 hl (by decide) rfl (fun ls hl => ?_)
        exact P60 (FX10_replay_46 L n) ih L _ _ _ _ _ _ _ _ h hB (lv_sub hl [1, 2, 3, 4, 0] rfl)
  refine lv_aload_n S.1 S.2.1 dX10_replay_0 rfl (lv_at hl 0 rfl) ?_
  refine tg_0_3 S hK hB (S.2.2.2.2 _ (List.mem_cons_of_mem _ wf_X10_35)) dX10_replay_1 ?_
  refine tgN_28_8 S hK hB (nF hKS.1 21 rfl) rfl dX10_replay_4 ?_
  refine lv_if_ne (tgt := 20) S.1 S.2.1 dX10_replay_7 (by decide) (fun c_1 => ?_) (fun c_1 => ?_)
  · replace h := (if_neg c_1).symm.trans h
    refine lv_aload_n S.1 S.2.1 dX10_replay_20 rfl (lv_at hl 0 rfl) ?_
    obtain ⟨_, σ_2, e_2, h⟩ := b2s h
    refine cCallV S hK xKSc hKS hA (gMet.weak (kX10_begin e_2) (fun _ _ q => q.1)) (cwX10_132 S.2.2.2.2 (rm := rmX10_begin) rfl rfl ⟨Nat.le_of_ble_eq_true rfl, Nat.le_of_ble_eq_true rfl⟩) hB 0 rfl rfl rfl hl.1 rfl (lv_room (Nat.le_of_ble_eq_true rfl)) dX10_replay_21 ⟨by decide, by decide⟩ (fun H locs hB => ?_)
    refine lv_aload_n S.1 S.2.1 dX10_replay_24 rfl (lv_at hl 0 rfl) ?_
    refine tg_0_6 S hK hB (S.2.2.2.2 _ (List.mem_cons_of_mem _ wf_X10_55)) dX10_replay_25 ?_
    refine tgN_49_3 S hK hB (nF hKS.1 30 rfl) rfl dX10_replay_28 ?_
    refine lv_aload_n S.1 S.2.1 dX10_replay_31 rfl (lv_at hl 0 rfl) ?_
    refine tg_0_5 S hK hB (S.2.2.2.2 _ (List.mem_cons_of_mem _ wf_X10_51)) dX10_replay_32 ?_
    refine tgN_44_3 S hK hB (nF hKS.1 30 rfl) rfl dX10_replay_35 ?_
    refine va_mmin S.1 S.2.1 (S.2.2.1.trans hl.1.symm) S.2.2.2.1 (S.2.2.2.2 _ (List.mem_cons_of_mem _ wm_X10_186)) (S.2.2.2.2 _ (List.mem_cons_of_mem _ wo_static_Math_min_name)) (S.2.2.2.2 _ (List.mem_cons_of_mem _ wo_init_Math)) (S.2.2.2.2 _ (List.mem_cons_of_mem _ wo_code_Math_min_name)) (Nat.le_of_ble_eq_true rfl) (Nat.le_of_ble_eq_true rfl) (Nat.zero_le _) (Nat.zero_le _) dX10_replay_38 ?_
    refine lv_istore_n (lv' := [(1, .int (if (σ_2.1 4403) < (σ_2.1 4903) then (σ_2.1 4403) else (σ_2.1 4903))), (0, .ref (ad 0))]) S.1 S.2.1 dX10_replay_41 rfl hl (by decide) rfl (fun ls hl => ?_)
    refine lv_iconst (v := (0 : Int32)) S.1 S.2.1 dX10_replay_42 (by decide) ?_
    refine lv_istore_n (lv' := [(2, .int (0 : Int32)), (1, .int (if (σ_2.1 4403) < (σ_2.1 4903) then (σ_2.1 4403) else (σ_2.1 4903))), (0, .ref (ad 0))]) S.1 S.2.1 dX10_replay_43 rfl hl (by decide) rfl (fun ls hl => ?_)
    refine lv_iconst (v := (0 : Int32)) S.1 S.2.1 dX10_replay_44 (by decide) ?_
    refine lv_istore_n (lv' := [(3, .int (0 : Int32)), (2, .int (0 : Int32)), (1, .int (if (σ_2.1 4403) < (σ_2.1 4903) then (σ_2.1 4403) else (σ_2.1 4903))), (0, .ref (ad 0))]) S.1 S.2.1 dX10_replay_45 rfl hl (by decide) rfl (fun ls hl => ?_)
    exact P46  L _ _ _ _ _ _ _ h hB (lv_sub hl [3, 2, 1, 0] rfl)
  · replace h := (if_pos c_1).symm.trans h
    cases h
    exact xThr_0 S hl9 hlk ht hKS hB hl.1 (text := "no program") (List.mem_of_getElem? (i := 60) rfl) dX10_replay_10 dX10_replay_13 dX10_replay_14 dX10_replay_16 dX10_replay_19 (Nat.le_of_ble_eq_true rfl) (Nat.le_of_ble_eq_true rfl) (Nat.le_of_ble_eq_true rfl) (Nat.le_of_ble_eq_true rfl)
def FX10_time (p0 : Int32) (σ : CS) : Option ((Nat ⊕ Int32) × CS) :=
  b2 (FX10_isStep p0 σ) fun r_1 σ_1 =>
  if r_1 = 0 then
    some (.inl 2, σ_1)
  else
    some (.inr (getI 120 (σ_1.2.2.1 46) p0), σ_1)
abbrev rmX10_time : Room := { frames := 6, cells := 1, slots := 6, locals := 82 }
def FX10_signal_17   (σ1 : CS) : Option ((Nat ⊕ Int64) × CS) :=
    some (.inl 2, σ1)
def FX10_signal (p0 : Int32) (p1 : Int32) (σ : CS) : Option ((Nat ⊕ Int64) × CS) :=
  b2 (FX10_isItem (0 : Int32) p0 σ) fun r_1 σ_1 =>
  if r_1 = 0 then
    FX10_signal_17 σ_1
  else
    b2 (FX10_isStep p1 σ_1) fun r_3 σ_3 =>
    if r_3 = 0 then
      FX10_signal_17 σ_3
    else
      some (.inr (getT 8 (σ_3.2.2.2.2 0) p0 p1), σ_3)
abbrev rmX10_signal : Room := { frames := 6, cells := 1, slots := 6, locals := 82 }
def FX10_value_17   (σ1 : CS) : Option ((Nat ⊕ Int64) × CS) :=
    some (.inl 2, σ1)
def FX10_value (p0 : Int32) (p1 : Int32) (σ : CS) : Option ((Nat ⊕ Int64) × CS) :=
  b2 (FX10_isItem (2 : Int32) p0 σ) fun r_1 σ_1 =>
  if r_1 = 0 then
    FX10_value_17 σ_1
  else
    b2 (FX10_isStep p1 σ_1) fun r_3 σ_3 =>
    if r_3 = 0 then
      FX10_value_17 σ_3
    else
      b2 (FX10_reckoned (2 : Int32) p0 p1 σ_3) fun r_5 σ_5 =>
      some (.inr r_5, σ_5)
abbrev rmX10_value : Room := { frames := 6, cells := 1, slots := 6, locals := 82 }
def FX10_let_17   (σ1 : CS) : Option ((Nat ⊕ Int32) × CS) :=
    some (.inl 2, σ1)
def FX10_let (p0 : Int32) (p1 : Int32) (σ : CS) : Option ((Nat ⊕ Int32) × CS) :=
  b2 (FX10_isItem (1 : Int32) p0 σ) fun r_1 σ_1 =>
  if r_1 = 0 then
    FX10_let_17 σ_1
  else
    b2 (FX10_isStep p1 σ_1) fun r_3 σ_3 =>
    if r_3 = 0 then
      FX10_let_17 σ_3
    else
      b2 (FX10_reckoned (1 : Int32) p0 p1 σ_3) fun r_5 σ_5 =>
      if r_5 = (0 : Int64) then
        some (.inr (0 : Int32), σ_5)
      else
        some (.inr (1 : Int32), σ_5)
abbrev rmX10_let : Room := { frames := 6, cells := 1, slots := 6, locals := 82 }
set_option maxRecDepth 100000 in
set_option maxHeartbeats 4000000 in
theorem kX10_let {l : Launch} {D : va_G} {cI cJ cQ : ClassId} {ad : Nat → Nat} {ra : Nat → Nat → Nat} {adK adV tK : Nat → Nat} {p0 : Int32} {p1 : Int32} {σ σ' : CS} {r : Nat ⊕ Int32} (hl9 : l.stackTraces = false) (h : FX10_let p0 p1 σ = some (r, σ')) : gMetX l yX10_let qX10_let rmX10_let D vwCl [(cI, .int), (cJ, .long), (cQ, .array .long)] (xKS adK adV tK) [.ref (ad 0), .int p0, .int p1] (CW cI cJ cQ ad ra σ) (CW cI cJ cQ ad ra σ') (xvI r) := by
  refine gMetX.of (cc := cX10_let) (maxL := 3) (ret := (some .boolean)) (by decide) rfl (Nat.le_of_ble_eq_true rfl) ?_
  intro p e s m args below meth c S hr hlk hnm ht hK hKS hA hB ls hl
  have hl : lv_has ls 3 [(0, .ref (ad 0)), (1, .int p0), (2, .int p1)] := hl
  replace S : CallFix p m c cX10_let 3 s args (_ :: wsL_law) RX10 := S
  rw [FX10_let] at h
  have P17 : ∀  (σ1 : CS) (H : Heap) (locs : List Loc) (ls : Array Slot), FX10_let_17  σ1 = some (r, σ') → gB D vwCl (va_A (CW cI cJ cQ ad ra σ) s.heap.size) s.heap (CW cI cJ cQ ad ra σ1) [] H locs → lv_has ls 3 [] → W p l e rmX10_let s m args below meth c H locs 0 0 (vx_MQ below (gXQ D vwCl (CW cI cJ cQ ad ra σ) (CW cI cJ cQ ad ra σ') (xvI r) s.heap.size) (gXC D vwCl (CW cI cJ cQ ad ra σ) (CW cI cJ cQ ad ra σ') (xvI r) s.heap.size) args s 1 6 (va_A (CW cI cJ cQ ad ra σ) s.heap.size)) (F0 m 17 ls []) := by
    intro   σ1 H locs ls h hB hl
    rw [FX10_let_17] at h
    cases h
    exact xThr_2 S hl9 hlk ht hKS hB hl.1 (text := "no such let or step") (List.mem_of_getElem? (i := 64) rfl) dX10_let_17 dX10_let_20 dX10_let_21 dX10_let_23 dX10_let_26 (Nat.le_of_ble_eq_true rfl) (Nat.le_of_ble_eq_true rfl) (Nat.le_of_ble_eq_true rfl) (Nat.le_of_ble_eq_true rfl)
  refine lv_aload_n S.1 S.2.1 dX10_let_0 rfl (lv_at hl 0 rfl) ?_
  refine lv_iconst (v := (1 : Int32)) S.1 S.2.1 dX10_let_1 (by decide) ?_
  refine lv_iload_n S.1 S.2.1 dX10_let_2 rfl (lv_at hl 1 rfl) ?_
  obtain ⟨r_1, σ_1, e_1, h⟩ := b2s h
  refine cCallI S hK xKSc hKS hA (gMet.weak (kX10_isItem e_1) (fun _ _ q => q.1)) (cwX10_144 S.2.2.2.2 (rm := rmX10_isItem) rfl rfl ⟨Nat.le_of_ble_eq_true rfl, Nat.le_of_ble_eq_true rfl⟩) hB 0 rfl rfl rfl hl.1 rfl (lv_room (Nat.le_of_ble_eq_true rfl)) dX10_let_3 ⟨by decide, by decide⟩ (fun H locs hB => ?_)
  refine lv_if_eq (tgt := 17) S.1 S.2.1 dX10_let_6 (by decide) (fun c_2 => ?_) (fun c_2 => ?_)
  · replace h := (if_pos c_2).symm.trans h
    exact P17  _ _ _ _ h hB (lv_sub hl [] rfl)
  · replace h := (if_neg c_2).symm.trans h
    refine lv_aload_n S.1 S.2.1 dX10_let_9 rfl (lv_at hl 0 rfl) ?_
    refine lv_iload_n S.1 S.2.1 dX10_let_10 rfl (lv_at hl 2 rfl) ?_
    obtain ⟨r_3, σ_3, e_3, h⟩ := b2s h
    refine cCallI S hK xKSc hKS hA (gMet.weak (kX10_isStep e_3) (fun _ _ q => q.1)) (cwX10_209 S.2.2.2.2 (rm := rmX10_isStep) rfl rfl ⟨Nat.le_of_ble_eq_true rfl, Nat.le_of_ble_eq_true rfl⟩) hB 0 rfl rfl rfl hl.1 rfl (lv_room (Nat.le_of_ble_eq_true rfl)) dX10_let_11 ⟨by decide, by decide⟩ (fun H locs hB => ?_)
    refine lv_if_ne (tgt := 27) S.1 S.2.1 dX10_let_14 (by decide) (fun c_4 => ?_) (fun c_4 => ?_)
    · replace h := (if_neg c_4).symm.trans h
      refine lv_aload_n S.1 S.2.1 dX10_let_27 rfl (lv_at hl 0 rfl) ?_
      refine lv_iconst (v := (1 : Int32)) S.1 S.2.1 dX10_let_28 (by decide) ?_
      refine lv_iload_n S.1 S.2.1 dX10_let_29 rfl (lv_at hl 1 rfl) ?_
      refine lv_iload_n S.1 S.2.1 dX10_let_30 rfl (lv_at hl 2 rfl) ?_
      obtain ⟨r_5, σ_5, e_5, h⟩ := b2s h
      refine cCallL S hK xKSc hKS hA (gMet.weak (kX10_reckoned e_5) (fun _ _ q => q.1)) (cwX10_219 S.2.2.2.2 (rm := rmX10_reckoned) rfl rfl ⟨Nat.le_of_ble_eq_true rfl, Nat.le_of_ble_eq_true rfl⟩) hB 0 rfl rfl rfl hl.1 rfl (lv_room (Nat.le_of_ble_eq_true rfl)) dX10_let_31 ⟨by decide, by decide⟩ (fun H locs hB => ?_)
      refine lv_lconst (v := 0) S.1 S.2.1 dX10_let_34 (by decide) ?_
      refine W.lcmp S.1 S.2.1 dX10_let_35 ?_
      refine lv_if_eq (tgt := 43) S.1 S.2.1 dX10_let_36 (by decide) (fun c_6 => ?_) (fun c_6 => ?_)
      · replace c_6 := lc_eq.mp c_6
        replace h := (if_pos c_6).symm.trans h
        refine lv_iconst (v := (0 : Int32)) S.1 S.2.1 dX10_let_43 (by decide) ?_
        refine W.widen (k := 1) (n := 6) (by decide) (by decide) ?_
        cases h
        exact gXret (gRetZ S.1 S.2.1 hr hlk hB rfl dX10_let_44)
      · replace c_6 := (not_congr lc_eq).mp c_6
        replace h := (if_neg c_6).symm.trans h
        refine lv_iconst (v := (1 : Int32)) S.1 S.2.1 dX10_let_39 (by decide) ?_
        refine lv_goto (tgt := 44) S.1 S.2.1 dX10_let_40 (by decide) ?_
        refine W.widen (k := 1) (n := 6) (by decide) (by decide) ?_
        cases h
        exact gXret (gRetZ S.1 S.2.1 hr hlk hB rfl dX10_let_44)
    · replace h := (if_pos c_4).symm.trans h
      exact P17  _ _ _ _ h hB (lv_sub hl [] rfl)
def FX10_watch_17   (σ1 : CS) : Option ((Nat ⊕ Int32) × CS) :=
    some (.inl 2, σ1)
def FX10_watch (p0 : Int32) (p1 : Int32) (σ : CS) : Option ((Nat ⊕ Int32) × CS) :=
  b2 (FX10_isItem (3 : Int32) p0 σ) fun r_1 σ_1 =>
  if r_1 = 0 then
    FX10_watch_17 σ_1
  else
    b2 (FX10_isStep p1 σ_1) fun r_3 σ_3 =>
    if r_3 = 0 then
      FX10_watch_17 σ_3
    else
      b2 (FX10_reckoned (3 : Int32) p0 p1 σ_3) fun r_5 σ_5 =>
      if r_5 = (0 : Int64) then
        some (.inr (0 : Int32), σ_5)
      else
        some (.inr (1 : Int32), σ_5)
abbrev rmX10_watch : Room := { frames := 6, cells := 1, slots := 6, locals := 82 }
set_option maxRecDepth 100000 in
set_option maxHeartbeats 4000000 in
theorem kX10_watch {l : Launch} {D : va_G} {cI cJ cQ : ClassId} {ad : Nat → Nat} {ra : Nat → Nat → Nat} {adK adV tK : Nat → Nat} {p0 : Int32} {p1 : Int32} {σ σ' : CS} {r : Nat ⊕ Int32} (hl9 : l.stackTraces = false) (h : FX10_watch p0 p1 σ = some (r, σ')) : gMetX l yX10_watch qX10_watch rmX10_watch D vwCl [(cI, .int), (cJ, .long), (cQ, .array .long)] (xKS adK adV tK) [.ref (ad 0), .int p0, .int p1] (CW cI cJ cQ ad ra σ) (CW cI cJ cQ ad ra σ') (xvI r) := by
  refine gMetX.of (cc := cX10_watch) (maxL := 3) (ret := (some .boolean)) (by decide) rfl (Nat.le_of_ble_eq_true rfl) ?_
  intro p e s m args below meth c S hr hlk hnm ht hK hKS hA hB ls hl
  have hl : lv_has ls 3 [(0, .ref (ad 0)), (1, .int p0), (2, .int p1)] := hl
  replace S : CallFix p m c cX10_watch 3 s args (_ :: wsL_law) RX10 := S
  rw [FX10_watch] at h
  have P17 : ∀  (σ1 : CS) (H : Heap) (locs : List Loc) (ls : Array Slot), FX10_watch_17  σ1 = some (r, σ') → gB D vwCl (va_A (CW cI cJ cQ ad ra σ) s.heap.size) s.heap (CW cI cJ cQ ad ra σ1) [] H locs → lv_has ls 3 [] → W p l e rmX10_watch s m args below meth c H locs 0 0 (vx_MQ below (gXQ D vwCl (CW cI cJ cQ ad ra σ) (CW cI cJ cQ ad ra σ') (xvI r) s.heap.size) (gXC D vwCl (CW cI cJ cQ ad ra σ) (CW cI cJ cQ ad ra σ') (xvI r) s.heap.size) args s 1 6 (va_A (CW cI cJ cQ ad ra σ) s.heap.size)) (F0 m 17 ls []) := by
    intro   σ1 H locs ls h hB hl
    rw [FX10_watch_17] at h
    cases h
    exact xThr_2 S hl9 hlk ht hKS hB hl.1 (text := "no such watch or step") (List.mem_of_getElem? (i := 65) rfl) dX10_watch_17 dX10_watch_20 dX10_watch_21 dX10_watch_23 dX10_watch_26 (Nat.le_of_ble_eq_true rfl) (Nat.le_of_ble_eq_true rfl) (Nat.le_of_ble_eq_true rfl) (Nat.le_of_ble_eq_true rfl)
  refine lv_aload_n S.1 S.2.1 dX10_watch_0 rfl (lv_at hl 0 rfl) ?_
  refine lv_iconst (v := (3 : Int32)) S.1 S.2.1 dX10_watch_1 (by decide) ?_
  refine lv_iload_n S.1 S.2.1 dX10_watch_2 rfl (lv_at hl 1 rfl) ?_
  obtain ⟨r_1, σ_1, e_1, h⟩ := b2s h
  refine cCallI S hK xKSc hKS hA (gMet.weak (kX10_isItem e_1) (fun _ _ q => q.1)) (cwX10_144 S.2.2.2.2 (rm := rmX10_isItem) rfl rfl ⟨Nat.le_of_ble_eq_true rfl, Nat.le_of_ble_eq_true rfl⟩) hB 0 rfl rfl rfl hl.1 rfl (lv_room (Nat.le_of_ble_eq_true rfl)) dX10_watch_3 ⟨by decide, by decide⟩ (fun H locs hB => ?_)
  refine lv_if_eq (tgt := 17) S.1 S.2.1 dX10_watch_6 (by decide) (fun c_2 => ?_) (fun c_2 => ?_)
  · replace h := (if_pos c_2).symm.trans h
    exact P17  _ _ _ _ h hB (lv_sub hl [] rfl)
  · replace h := (if_neg c_2).symm.trans h
    refine lv_aload_n S.1 S.2.1 dX10_watch_9 rfl (lv_at hl 0 rfl) ?_
    refine lv_iload_n S.1 S.2.1 dX10_watch_10 rfl (lv_at hl 2 rfl) ?_
    obtain ⟨r_3, σ_3, e_3, h⟩ := b2s h
    refine cCallI S hK xKSc hKS hA (gMet.weak (kX10_isStep e_3) (fun _ _ q => q.1)) (cwX10_209 S.2.2.2.2 (rm := rmX10_isStep) rfl rfl ⟨Nat.le_of_ble_eq_true rfl, Nat.le_of_ble_eq_true rfl⟩) hB 0 rfl rfl rfl hl.1 rfl (lv_room (Nat.le_of_ble_eq_true rfl)) dX10_watch_11 ⟨by decide, by decide⟩ (fun H locs hB => ?_)
    refine lv_if_ne (tgt := 27) S.1 S.2.1 dX10_watch_14 (by decide) (fun c_4 => ?_) (fun c_4 => ?_)
    · replace h := (if_neg c_4).symm.trans h
      refine lv_aload_n S.1 S.2.1 dX10_watch_27 rfl (lv_at hl 0 rfl) ?_
      refine lv_iconst (v := (3 : Int32)) S.1 S.2.1 dX10_watch_28 (by decide) ?_
      refine lv_iload_n S.1 S.2.1 dX10_watch_29 rfl (lv_at hl 1 rfl) ?_
      refine lv_iload_n S.1 S.2.1 dX10_watch_30 rfl (lv_at hl 2 rfl) ?_
      obtain ⟨r_5, σ_5, e_5, h⟩ := b2s h
      refine cCallL S hK xKSc hKS hA (gMet.weak (kX10_reckoned e_5) (fun _ _ q => q.1)) (cwX10_219 S.2.2.2.2 (rm := rmX10_reckoned) rfl rfl ⟨Nat.le_of_ble_eq_true rfl, Nat.le_of_ble_eq_true rfl⟩) hB 0 rfl rfl rfl hl.1 rfl (lv_room (Nat.le_of_ble_eq_true rfl)) dX10_watch_31 ⟨by decide, by decide⟩ (fun H locs hB => ?_)
      refine lv_lconst (v := 0) S.1 S.2.1 dX10_watch_34 (by decide) ?_
      refine W.lcmp S.1 S.2.1 dX10_watch_35 ?_
      refine lv_if_eq (tgt := 43) S.1 S.2.1 dX10_watch_36 (by decide) (fun c_6 => ?_) (fun c_6 => ?_)
      · replace c_6 := lc_eq.mp c_6
        replace h := (if_pos c_6).symm.trans h
        refine lv_iconst (v := (0 : Int32)) S.1 S.2.1 dX10_watch_43 (by decide) ?_
        refine W.widen (k := 1) (n := 6) (by decide) (by decide) ?_
        cases h
        exact gXret (gRetZ S.1 S.2.1 hr hlk hB rfl dX10_watch_44)
      · replace c_6 := (not_congr lc_eq).mp c_6
        replace h := (if_neg c_6).symm.trans h
        refine lv_iconst (v := (1 : Int32)) S.1 S.2.1 dX10_watch_39 (by decide) ?_
        refine lv_goto (tgt := 44) S.1 S.2.1 dX10_watch_40 (by decide) ?_
        refine W.widen (k := 1) (n := 6) (by decide) (by decide) ?_
        cases h
        exact gXret (gRetZ S.1 S.2.1 hr hlk hB rfl dX10_watch_44)
    · replace h := (if_pos c_4).symm.trans h
      exact P17  _ _ _ _ h hB (lv_sub hl [] rfl)
def FX10_told_18 (L : Nat)   (σ1 : CS) : Option ((Nat ⊕ Int32) × CS) :=
    some (.inl 2, σ1)
def FX10_told (L : Nat) (p0 : Int32) (p1 : Int32) (σ : CS) : Option ((Nat ⊕ Int32) × CS) :=
  b2 (FX10_isItem (3 : Int32) p0 σ) fun r_1 σ_1 =>
  if r_1 = 0 then
    FX10_told_18 L σ_1
  else
    if p1 < 0 then
      FX10_told_18 L σ_1
    else
      if p1 < (5 : Int32) then
        b2 (FX10_toldOf L p0 p1 σ_1) fun r_5 σ_5 =>
        some (.inr r_5, σ_5)
      else
        FX10_told_18 L σ_1
abbrev rmX10_told : Room := { frames := 6, cells := 1, slots := 6, locals := 112 }
set_option maxRecDepth 100000 in
set_option maxHeartbeats 4000000 in
theorem kX10_told {l : Launch} {D : va_G} {cI cJ cQ : ClassId} {ad : Nat → Nat} {ra : Nat → Nat → Nat} {adK adV tK : Nat → Nat} {L : Nat} {p0 : Int32} {p1 : Int32} {σ σ' : CS} {r : Nat ⊕ Int32} (hl9 : l.stackTraces = false) (h : FX10_told L p0 p1 σ = some (r, σ')) : gMetX l yX10_told qX10_told rmX10_told D vwCl [(cI, .int), (cJ, .long), (cQ, .array .long)] (xKS adK adV tK) [.ref (ad 0), .int p0, .int p1] (CW cI cJ cQ ad ra σ) (CW cI cJ cQ ad ra σ') (xvI r) := by
  refine gMetX.of (cc := cX10_told) (maxL := 3) (ret := (some .int)) (by decide) rfl (Nat.le_of_ble_eq_true rfl) ?_
  intro p e s m args below meth c S hr hlk hnm ht hK hKS hA hB ls hl
  have hl : lv_has ls 3 [(0, .ref (ad 0)), (1, .int p0), (2, .int p1)] := hl
  replace S : CallFix p m c cX10_told 3 s args (_ :: wsL_law) RX10 := S
  rw [FX10_told] at h
  have P18 : ∀  (σ1 : CS) (H : Heap) (locs : List Loc) (ls : Array Slot), FX10_told_18 L  σ1 = some (r, σ') → gB D vwCl (va_A (CW cI cJ cQ ad ra σ) s.heap.size) s.heap (CW cI cJ cQ ad ra σ1) [] H locs → lv_has ls 3 [] → W p l e rmX10_told s m args below meth c H locs 0 0 (vx_MQ below (gXQ D vwCl (CW cI cJ cQ ad ra σ) (CW cI cJ cQ ad ra σ') (xvI r) s.heap.size) (gXC D vwCl (CW cI cJ cQ ad ra σ) (CW cI cJ cQ ad ra σ') (xvI r) s.heap.size) args s 1 6 (va_A (CW cI cJ cQ ad ra σ) s.heap.size)) (F0 m 18 ls []) := by
    intro   σ1 H locs ls h hB hl
    rw [FX10_told_18] at h
    cases h
    exact xThr_2 S hl9 hlk ht hKS hB hl.1 (text := "no such watch, or not 0 to 4") (List.mem_of_getElem? (i := 66) rfl) dX10_told_18 dX10_told_21 dX10_told_22 dX10_told_24 dX10_told_27 (Nat.le_of_ble_eq_true rfl) (Nat.le_of_ble_eq_true rfl) (Nat.le_of_ble_eq_true rfl) (Nat.le_of_ble_eq_true rfl)
  refine lv_aload_n S.1 S.2.1 dX10_told_0 rfl (lv_at hl 0 rfl) ?_
  refine lv_iconst (v := (3 : Int32)) S.1 S.2.1 dX10_told_1 (by decide) ?_
  refine lv_iload_n S.1 S.2.1 dX10_told_2 rfl (lv_at hl 1 rfl) ?_
  obtain ⟨r_1, σ_1, e_1, h⟩ := b2s h
  refine cCallI S hK xKSc hKS hA (gMet.weak (kX10_isItem e_1) (fun _ _ q => q.1)) (cwX10_144 S.2.2.2.2 (rm := rmX10_isItem) rfl rfl ⟨Nat.le_of_ble_eq_true rfl, Nat.le_of_ble_eq_true rfl⟩) hB 0 rfl rfl rfl hl.1 rfl (lv_room (Nat.le_of_ble_eq_true rfl)) dX10_told_3 ⟨by decide, by decide⟩ (fun H locs hB => ?_)
  refine lv_if_eq (tgt := 18) S.1 S.2.1 dX10_told_6 (by decide) (fun c_2 => ?_) (fun c_2 => ?_)
  · replace h := (if_pos c_2).symm.trans h
    exact P18  _ _ _ _ h hB (lv_sub hl [] rfl)
  · replace h := (if_neg c_2).symm.trans h
    refine lv_iload_n S.1 S.2.1 dX10_told_9 rfl (lv_at hl 2 rfl) ?_
    refine lv_if_lt (tgt := 18) S.1 S.2.1 dX10_told_10 (by decide) (fun c_3 => ?_) (fun c_3 => ?_)
    · replace h := (if_pos c_3).symm.trans h
      exact P18  _ _ _ _ h hB (lv_sub hl [] rfl)
    · replace h := (if_neg c_3).symm.trans h
      refine lv_iload_n S.1 S.2.1 dX10_told_13 rfl (lv_at hl 2 rfl) ?_
      refine lv_iconst (v := (5 : Int32)) S.1 S.2.1 dX10_told_14 (by decide) ?_
      refine lv_icmp_lt (tgt := 28) S.1 S.2.1 dX10_told_15 (by decide) (fun c_4 => ?_) (fun c_4 => ?_)
      · replace h := (if_pos c_4).symm.trans h
        refine lv_aload_n S.1 S.2.1 dX10_told_28 rfl (lv_at hl 0 rfl) ?_
        refine lv_iload_n S.1 S.2.1 dX10_told_29 rfl (lv_at hl 1 rfl) ?_
        refine lv_iload_n S.1 S.2.1 dX10_told_30 rfl (lv_at hl 2 rfl) ?_
        obtain ⟨r_5, σ_5, e_5, h⟩ := b2s h
        refine cCallI S hK xKSc hKS hA (gMet.weak (kX10_toldOf e_5) (fun _ _ q => q.1)) (cwX10_229 S.2.2.2.2 (rm := rmX10_toldOf) rfl rfl ⟨Nat.le_of_ble_eq_true rfl, Nat.le_of_ble_eq_true rfl⟩) hB 0 rfl rfl rfl hl.1 rfl (lv_room (Nat.le_of_ble_eq_true rfl)) dX10_told_31 ⟨by decide, by decide⟩ (fun H locs hB => ?_)
        refine W.widen (k := 1) (n := 6) (by decide) (by decide) ?_
        cases h
        exact gXret (gRetI S.1 S.2.1 hr hlk hB dX10_told_34)
      · replace h := (if_neg c_4).symm.trans h
        exact P18  _ _ _ _ h hB (lv_sub hl [] rfl)
def FX10_alarms_10 (L : Nat)   (σ1 : CS) : Option ((Nat ⊕ Int32) × CS) :=
    some (.inl 1, σ1)
def FX10_alarms (L : Nat) (p0 : Int32) (σ : CS) : Option ((Nat ⊕ Int32) × CS) :=
  if p0 < 0 then
    FX10_alarms_10 L σ
  else
    if p0 ≤ (9 : Int32) then
      b2 (FX10_broken L p0 σ) fun r_3 σ_3 =>
      some (.inr r_3, σ_3)
    else
      FX10_alarms_10 L σ
abbrev rmX10_alarms : Room := { frames := 6, cells := 1, slots := 6, locals := 89 }
def FX10_why_17 (L : Nat)   (σ1 : CS) : Option ((Nat ⊕ Int32) × CS) :=
    some (.inl 2, σ1)
def FX10_why (L : Nat) (p0 : Int32) (p1 : Int32) (p2 : Int32) (σ : CS) : Option ((Nat ⊕ Int32) × CS) :=
  b2 (FX10_isItem (3 : Int32) p0 σ) fun r_1 σ_1 =>
  if r_1 = 0 then
    FX10_why_17 L σ_1
  else
    b2 (FX10_isStep p1 σ_1) fun r_3 σ_3 =>
    if r_3 = 0 then
      FX10_why_17 L σ_3
    else
      b2 (FX10_reckoned (3 : Int32) p0 p1 σ_3) fun r_5 σ_5 =>
      if r_5 = (0 : Int64) then
        b2 (FX5_rootOf (3 : Int32) p0 σ_5) fun r_7 σ_7 =>
        b2 (FX6_findReason L r_7 p1 σ_7) fun (_ : Unit) σ_8 =>
        if p2 = 0 then
          some (.inr (getI 1200 (σ_8.2.2.1 17) (σ_8.1 5403)), σ_8)
        else
          some (.inr (σ_8.1 5404), σ_8)
      else
        some (.inl 0, σ_5)
abbrev rmX10_why : Room := { frames := 6, cells := 1, slots := 6, locals := 117 }
def FX10_differ_18 (L : Nat)   (σ1 : CS) : Option ((Nat ⊕ Int32) × CS) :=
    some (.inl 2, σ1)
def FX10_differ_30 (L : Nat)  : Nat → Int32 → Int32 → Int32 → CS → Option ((Nat ⊕ Int32) × CS)
  | 0, _, _, _, _ => none
  | n+1, x1, x2, x3, σ1 =>
    if (σ1.1 4402) ≤ x3 then
      some (.inr (-1 : Int32), σ1)
    else
      b2 (FX10_reckoned (3 : Int32) x1 x3 σ1) fun r_6 σ_6 =>
      b2 (FX10_reckoned (3 : Int32) x2 x3 σ_6) fun r_7 σ_7 =>
      if r_6 = r_7 then
        (FX10_differ_30 L n) x1 x2 (x3 + (1 : Int32)) σ_7
      else
        some (.inr x3, σ_7)
def FX10_differ (L : Nat) (p0 : Int32) (p1 : Int32) (σ : CS) : Option ((Nat ⊕ Int32) × CS) :=
  b2 (FX10_isItem (3 : Int32) p0 σ) fun r_1 σ_1 =>
  if r_1 = 0 then
    FX10_differ_18 L σ_1
  else
    b2 (FX10_isItem (3 : Int32) p1 σ_1) fun r_3 σ_3 =>
    if r_3 = 0 then
      FX10_differ_18 L σ_3
    else
      FX10_differ_30 L L p0 p1 (0 : Int32) σ_3
abbrev rmX10_differ : Room := { frames := 6, cells := 1, slots := 6, locals := 82 }
set_option maxRecDepth 100000 in
set_option maxHeartbeats 4000000 in
theorem kX10_differ {l : Launch} {D : va_G} {cI cJ cQ : ClassId} {ad : Nat → Nat} {ra : Nat → Nat → Nat} {adK adV tK : Nat → Nat} {L : Nat} {p0 : Int32} {p1 : Int32} {σ σ' : CS} {r : Nat ⊕ Int32} (hl9 : l.stackTraces = false) (h : FX10_differ L p0 p1 σ = some (r, σ')) : gMetX l yX10_differ qX10_differ rmX10_differ D vwCl [(cI, .int), (cJ, .long), (cQ, .array .long)] (xKS adK adV tK) [.ref (ad 0), .int p0, .int p1] (CW cI cJ cQ ad ra σ) (CW cI cJ cQ ad ra σ') (xvI r) := by
  refine gMetX.of (cc := cX10_differ) (maxL := 4) (ret := (some .int)) (by decide) rfl (Nat.le_of_ble_eq_true rfl) ?_
  intro p e s m args below meth c S hr hlk hnm ht hK hKS hA hB ls hl
  have hl : lv_has ls 4 [(0, .ref (ad 0)), (1, .int p0), (2, .int p1)] := hl
  replace S : CallFix p m c cX10_differ 4 s args (_ :: wsL_law) RX10 := S
  rw [FX10_differ] at h
  have P18 : ∀  (σ1 : CS) (H : Heap) (locs : List Loc) (ls : Array Slot), FX10_differ_18 L  σ1 = some (r, σ') → gB D vwCl (va_A (CW cI cJ cQ ad ra σ) s.heap.size) s.heap (CW cI cJ cQ ad ra σ1) [] H locs → lv_has ls 4 [] → W p l e rmX10_differ s m args below meth c H locs 0 0 (vx_MQ below (gXQ D vwCl (CW cI cJ cQ ad ra σ) (CW cI cJ cQ ad ra σ') (xvI r) s.heap.size) (gXC D vwCl (CW cI cJ cQ ad ra σ) (CW cI cJ cQ ad ra σ') (xvI r) s.heap.size) args s 1 6 (va_A (CW cI cJ cQ ad ra σ) s.heap.size)) (F0 m 18 ls []) := by
    intro   σ1 H locs ls h hB hl
    rw [FX10_differ_18] at h
    cases h
    exact xThr_2 S hl9 hlk ht hKS hB hl.1 (text := "no such watch") (List.mem_of_getElem? (i := 69) rfl) dX10_differ_18 dX10_differ_21 dX10_differ_22 dX10_differ_24 dX10_differ_27 (Nat.le_of_ble_eq_true rfl) (Nat.le_of_ble_eq_true rfl) (Nat.le_of_ble_eq_true rfl) (Nat.le_of_ble_eq_true rfl)
  have P30 : ∀  (n : Nat), ∀ (x1 : Int32) (x2 : Int32) (x3 : Int32) (σ1 : CS) (H : Heap) (locs : List Loc) (ls : Array Slot), FX10_differ_30 L n x1 x2 x3 σ1 = some (r, σ') → gB D vwCl (va_A (CW cI cJ cQ ad ra σ) s.heap.size) s.heap (CW cI cJ cQ ad ra σ1) [] H locs → lv_has ls 4 [(0, .ref (ad 0)), (1, .int x1), (2, .int x2), (3, .int x3)] → W p l e rmX10_differ s m args below meth c H locs 0 0 (vx_MQ below (gXQ D vwCl (CW cI cJ cQ ad ra σ) (CW cI cJ cQ ad ra σ') (xvI r) s.heap.size) (gXC D vwCl (CW cI cJ cQ ad ra σ) (CW cI cJ cQ ad ra σ') (xvI r) s.heap.size) args s 1 6 (va_A (CW cI cJ cQ ad ra σ) s.heap.size)) (F0 m 30 ls []) := by
    intro n
    induction n with
    | zero => intro x1 x2 x3 σ1 H locs ls h; simp only [FX10_differ_30] at h; cases h
    | succ n ih =>
      intro x1 x2 x3 σ1 H locs ls h hB hl
      rw [FX10_differ_30] at h
      refine lv_iload_n S.1 S.2.1 dX10_differ_30 rfl (lv_at hl 3 rfl) ?_
      refine lv_aload_n S.1 S.2.1 dX10_differ_31 rfl (lv_at hl 0 rfl) ?_
      refine tg_0_5 S hK hB (S.2.2.2.2 _ (List.mem_cons_of_mem _ wf_X10_51)) dX10_differ_32 ?_
      refine tgN_44_2 S hK hB (nF hKS.1 29 rfl) rfl dX10_differ_35 ?_
      refine lv_icmp_ge (tgt := 67) S.1 S.2.1 dX10_differ_38 (by decide) (fun c_5 => ?_) (fun c_5 => ?_)
      · replace h := (if_pos c_5).symm.trans h
        refine lv_iconst (v := (-1 : Int32)) S.1 S.2.1 dX10_differ_67 (by decide) ?_
        refine W.widen (k := 1) (n := 6) (by decide) (by decide) ?_
        cases h
        exact gXret (gRetI S.1 S.2.1 hr hlk hB dX10_differ_68)
      · replace h := (if_neg c_5).symm.trans h
        refine lv_aload_n S.1 S.2.1 dX10_differ_41 rfl (lv_at hl 0 rfl) ?_
        refine lv_iconst (v := (3 : Int32)) S.1 S.2.1 dX10_differ_42 (by decide) ?_
        refine lv_iload_n S.1 S.2.1 dX10_differ_43 rfl (lv_at hl 1 rfl) ?_
        refine lv_iload_n S.1 S.2.1 dX10_differ_44 rfl (lv_at hl 3 rfl) ?_
        obtain ⟨r_6, σ_6, e_6, h⟩ := b2s h
        refine cCallL S hK xKSc hKS hA (gMet.weak (kX10_reckoned e_6) (fun _ _ q => q.1)) (cwX10_219 S.2.2.2.2 (rm := rmX10_reckoned) rfl rfl ⟨Nat.le_of_ble_eq_true rfl, Nat.le_of_ble_eq_true rfl⟩) hB 0 rfl rfl rfl hl.1 rfl (lv_room (Nat.le_of_ble_eq_true rfl)) dX10_differ_45 ⟨by decide, by decide⟩ (fun H locs hB => ?_)
        refine lv_aload_n S.1 S.2.1 dX10_differ_48 rfl (lv_at hl 0 rfl) ?_
        refine lv_iconst (v := (3 : Int32)) S.1 S.2.1 dX10_differ_49 (by decide) ?_
        refine lv_iload_n S.1 S.2.1 dX10_differ_50 rfl (lv_at hl 2 rfl) ?_
        refine lv_iload_n S.1 S.2.1 dX10_differ_51 rfl (lv_at hl 3 rfl) ?_
        obtain ⟨r_7, σ_7, e_7, h⟩ := b2s h
        refine cCallL S hK xKSc hKS hA (gMet.weak (kX10_reckoned e_7) (fun _ _ q => q.1)) (cwX10_219 S.2.2.2.2 (rm := rmX10_reckoned) rfl rfl ⟨Nat.le_of_ble_eq_true rfl, Nat.le_of_ble_eq_true rfl⟩) hB 0 rfl rfl rfl hl.1 rfl (lv_room (Nat.le_of_ble_eq_true rfl)) dX10_differ_52 ⟨by decide, by decide⟩ (fun H locs hB => ?_)
        refine W.lcmp S.1 S.2.1 dX10_differ_55 ?_
        refine lv_if_eq (tgt := 61) S.1 S.2.1 dX10_differ_56 (by decide) (fun c_8 => ?_) (fun c_8 => ?_)
        · replace c_8 := lc_eq.mp c_8
          replace h := (if_pos c_8).symm.trans h
          refine lv_iinc (v := (x3 + (1 : Int32))) (lv' := [(3, .int (x3 + (1 : Int32))), (0, .ref (ad 0)), (1, .int x1), (2, .int x2)]) S.1 S.2.1 dX10_differ_61 hl (k := 3) rfl rfl (by decide) rfl (fun ls hl => ?_)
          refine lv_goto (tgt := 30) S.1 S.2.1 dX10_differ_64 (by decide) ?_
          exact ih _ _ _ _ _ _ _ h hB (lv_sub hl [1, 2, 3, 0] rfl)
        · replace c_8 := (not_congr lc_eq).mp c_8
          replace h := (if_neg c_8).symm.trans h
          refine lv_iload_n S.1 S.2.1 dX10_differ_59 rfl (lv_at hl 3 rfl) ?_
          refine W.widen (k := 1) (n := 6) (by decide) (by decide) ?_
          cases h
          exact gXret (gRetI S.1 S.2.1 hr hlk hB dX10_differ_60)
  refine lv_aload_n S.1 S.2.1 dX10_differ_0 rfl (lv_at hl 0 rfl) ?_
  refine lv_iconst (v := (3 : Int32)) S.1 S.2.1 dX10_differ_1 (by decide) ?_
  refine lv_iload_n S.1 S.2.1 dX10_differ_2 rfl (lv_at hl 1 rfl) ?_
  obtain ⟨r_1, σ_1, e_1, h⟩ := b2s h
  refine cCallI S hK xKSc hKS hA (gMet.weak (kX10_isItem e_1) (fun _ _ q => q.1)) (cwX10_144 S.2.2.2.2 (rm := rmX10_isItem) rfl rfl ⟨Nat.le_of_ble_eq_true rfl, Nat.le_of_ble_eq_true rfl⟩) hB 0 rfl rfl rfl hl.1 rfl (lv_room (Nat.le_of_ble_eq_true rfl)) dX10_differ_3 ⟨by decide, by decide⟩ (fun H locs hB => ?_)
  refine lv_if_eq (tgt := 18) S.1 S.2.1 dX10_differ_6 (by decide) (fun c_2 => ?_) (fun c_2 => ?_)
  · replace h := (if_pos c_2).symm.trans h
    exact P18  _ _ _ _ h hB (lv_sub hl [] rfl)
  · replace h := (if_neg c_2).symm.trans h
    refine lv_aload_n S.1 S.2.1 dX10_differ_9 rfl (lv_at hl 0 rfl) ?_
    refine lv_iconst (v := (3 : Int32)) S.1 S.2.1 dX10_differ_10 (by decide) ?_
    refine lv_iload_n S.1 S.2.1 dX10_differ_11 rfl (lv_at hl 2 rfl) ?_
    obtain ⟨r_3, σ_3, e_3, h⟩ := b2s h
    refine cCallI S hK xKSc hKS hA (gMet.weak (kX10_isItem e_3) (fun _ _ q => q.1)) (cwX10_144 S.2.2.2.2 (rm := rmX10_isItem) rfl rfl ⟨Nat.le_of_ble_eq_true rfl, Nat.le_of_ble_eq_true rfl⟩) hB 0 rfl rfl rfl hl.1 rfl (lv_room (Nat.le_of_ble_eq_true rfl)) dX10_differ_12 ⟨by decide, by decide⟩ (fun H locs hB => ?_)
    refine lv_if_ne (tgt := 28) S.1 S.2.1 dX10_differ_15 (by decide) (fun c_4 => ?_) (fun c_4 => ?_)
    · replace h := (if_neg c_4).symm.trans h
      refine lv_iconst (v := (0 : Int32)) S.1 S.2.1 dX10_differ_28 (by decide) ?_
      refine lv_istore_n (lv' := [(3, .int (0 : Int32)), (0, .ref (ad 0)), (1, .int p0), (2, .int p1)]) S.1 S.2.1 dX10_differ_29 rfl hl (by decide) rfl (fun ls hl => ?_)
      exact P30  L _ _ _ _ _ _ _ h hB (lv_sub hl [1, 2, 3, 0] rfl)
    · replace h := (if_pos c_4).symm.trans h
      exact P18  _ _ _ _ h hB (lv_sub hl [] rfl)
def FX10_share (L : Nat) (p0 : Int32) (σ : CS) : Option ((Nat ⊕ UInt64) × CS) :=
  b2 (FX10_isItem (3 : Int32) p0 σ) fun r_1 σ_1 =>
  if r_1 = 0 then
    some (.inl 2, σ_1)
  else
    if (σ_1.1 4402) = 0 then
      some (.inr FP.dconst1, σ_1)
    else
      b2 (FX10_misses L p0 σ_1) fun r_4 σ_4 =>
      if (¬ ((FP.ddiv (FP.i2d ((σ_1.1 4402) - r_4)) (FP.i2d (σ_1.1 4402))) &&& 0x7fffffffffffffff ≤ 0x7ff0000000000000)) then none else
      some (.inr (FP.ddiv (FP.i2d ((σ_1.1 4402) - r_4)) (FP.i2d (σ_1.1 4402))), σ_4)
abbrev rmX10_share : Room := { frames := 6, cells := 1, slots := 6, locals := 89 }
set_option maxRecDepth 100000 in
set_option maxHeartbeats 4000000 in
theorem kX10_share {l : Launch} {D : va_G} {cI cJ cQ : ClassId} {ad : Nat → Nat} {ra : Nat → Nat → Nat} {adK adV tK : Nat → Nat} {L : Nat} {p0 : Int32} {σ σ' : CS} {r : Nat ⊕ UInt64} (hl9 : l.stackTraces = false) (h : FX10_share L p0 σ = some (r, σ')) : gMetX l yX10_share qX10_share rmX10_share D vwCl [(cI, .int), (cJ, .long), (cQ, .array .long)] (xKS adK adV tK) [.ref (ad 0), .int p0] (CW cI cJ cQ ad ra σ) (CW cI cJ cQ ad ra σ') (xvD r) := by
  refine gMetX.of (cc := cX10_share) (maxL := 3) (ret := (some .double)) (by decide) rfl (Nat.le_of_ble_eq_true rfl) ?_
  intro p e s m args below meth c S hr hlk hnm ht hK hKS hA hB ls hl
  have hl : lv_has ls 3 [(0, .ref (ad 0)), (1, .int p0)] := hl
  replace S : CallFix p m c cX10_share 3 s args (_ :: wsL_law) RX10 := S
  rw [FX10_share] at h
  refine lv_aload_n S.1 S.2.1 dX10_share_0 rfl (lv_at hl 0 rfl) ?_
  refine lv_iconst (v := (3 : Int32)) S.1 S.2.1 dX10_share_1 (by decide) ?_
  refine lv_iload_n S.1 S.2.1 dX10_share_2 rfl (lv_at hl 1 rfl) ?_
  obtain ⟨r_1, σ_1, e_1, h⟩ := b2s h
  refine cCallI S hK xKSc hKS hA (gMet.weak (kX10_isItem e_1) (fun _ _ q => q.1)) (cwX10_144 S.2.2.2.2 (rm := rmX10_isItem) rfl rfl ⟨Nat.le_of_ble_eq_true rfl, Nat.le_of_ble_eq_true rfl⟩) hB 0 rfl rfl rfl hl.1 rfl (lv_room (Nat.le_of_ble_eq_true rfl)) dX10_share_3 ⟨by decide, by decide⟩ (fun H locs hB => ?_)
  refine lv_if_ne (tgt := 19) S.1 S.2.1 dX10_share_6 (by decide) (fun c_2 => ?_) (fun c_2 => ?_)
  · replace h := (if_neg c_2).symm.trans h
    refine lv_aload_n S.1 S.2.1 dX10_share_19 rfl (lv_at hl 0 rfl) ?_
    refine tg_0_5 S hK hB (S.2.2.2.2 _ (List.mem_cons_of_mem _ wf_X10_51)) dX10_share_20 ?_
    refine tgN_44_2 S hK hB (nF hKS.1 29 rfl) rfl dX10_share_23 ?_
    refine lv_istore_n (lv' := [(2, .int (σ_1.1 4402)), (0, .ref (ad 0)), (1, .int p0)]) S.1 S.2.1 dX10_share_26 rfl hl (by decide) rfl (fun ls hl => ?_)
    refine lv_iload_n S.1 S.2.1 dX10_share_27 rfl (lv_at hl 0 rfl) ?_
    refine lv_if_ne (tgt := 33) S.1 S.2.1 dX10_share_28 (by decide) (fun c_3 => ?_) (fun c_3 => ?_)
    · replace h := (if_neg c_3).symm.trans h
      refine lv_iload_n S.1 S.2.1 dX10_share_33 rfl (lv_at hl 0 rfl) ?_
      refine lv_aload_n S.1 S.2.1 dX10_share_34 rfl (lv_at hl 1 rfl) ?_
      refine lv_iload_n S.1 S.2.1 dX10_share_35 rfl (lv_at hl 2 rfl) ?_
      obtain ⟨r_4, σ_4, e_4, h⟩ := b2s h
      refine cCallI S hK xKSc hKS hA (gMet.weak (kX10_misses e_4) (fun _ _ q => q.1)) (cwX10_254 S.2.2.2.2 (rm := rmX10_misses) rfl rfl ⟨Nat.le_of_ble_eq_true rfl, Nat.le_of_ble_eq_true rfl⟩) hB 0 rfl rfl rfl hl.1 rfl (lv_room (Nat.le_of_ble_eq_true rfl)) dX10_share_36 ⟨by decide, by decide⟩ (fun H locs hB => ?_)
      refine lv_isub S.1 S.2.1 dX10_share_39 ?_
      refine lv_i2d S.1 S.2.1 dX10_share_40 ?_
      refine lv_iload_n S.1 S.2.1 dX10_share_41 rfl (lv_at hl 0 rfl) ?_
      refine lv_i2d S.1 S.2.1 dX10_share_42 ?_
      obtain ⟨z_5, h⟩ := gd h
      refine lv_ddiv S.1 S.2.1 dX10_share_43 (Classical.not_not.mp z_5) ?_
      refine W.widen (k := 1) (n := 6) (by decide) (by decide) ?_
      cases h
      exact gXret (gRetD S.1 S.2.1 hr hlk hB dX10_share_44)
    · replace h := (if_pos c_3).symm.trans h
      refine lv_dconst1 S.1 S.2.1 dX10_share_31 ?_
      refine W.widen (k := 1) (n := 6) (by decide) (by decide) ?_
      cases h
      exact gXret (gRetD S.1 S.2.1 hr hlk hB dX10_share_32)
  · replace h := (if_pos c_2).symm.trans h
    cases h
    exact xThr_2 S hl9 hlk ht hKS hB hl.1 (text := "no such watch") (List.mem_of_getElem? (i := 69) rfl) dX10_share_9 dX10_share_12 dX10_share_13 dX10_share_15 dX10_share_18 (Nat.le_of_ble_eq_true rfl) (Nat.le_of_ble_eq_true rfl) (Nat.le_of_ble_eq_true rfl) (Nat.le_of_ble_eq_true rfl)
def FX10_answer (p0 : Int32) (σ : CS) : Option ((Nat ⊕ Int32) × CS) :=
  b2 (FX10_isStep p0 σ) fun r_1 σ_1 =>
  if r_1 = 0 then
    some (.inl 2, σ_1)
  else
    if (σ_1.1 10) = 0 then
      some (.inl 0, σ_1)
    else
      if (getT 1200 (σ_1.2.2.2.2 2) (σ_1.1 11) p0) = (0 : Int64) then
        some (.inr (0 : Int32), σ_1)
      else
        some (.inr (1 : Int32), σ_1)
abbrev rmX10_answer : Room := { frames := 6, cells := 1, slots := 6, locals := 82 }
set_option maxRecDepth 100000 in
set_option maxHeartbeats 4000000 in
theorem kX10_answer {l : Launch} {D : va_G} {cI cJ cQ : ClassId} {ad : Nat → Nat} {ra : Nat → Nat → Nat} {adK adV tK : Nat → Nat} {p0 : Int32} {σ σ' : CS} {r : Nat ⊕ Int32} (hl9 : l.stackTraces = false) (h : FX10_answer p0 σ = some (r, σ')) : gMetX l yX10_answer qX10_answer rmX10_answer D vwCl [(cI, .int), (cJ, .long), (cQ, .array .long)] (xKS adK adV tK) [.ref (ad 0), .int p0] (CW cI cJ cQ ad ra σ) (CW cI cJ cQ ad ra σ') (xvI r) := by
  refine gMetX.of (cc := cX10_answer) (maxL := 2) (ret := (some .boolean)) (by decide) rfl (Nat.le_of_ble_eq_true rfl) ?_
  intro p e s m args below meth c S hr hlk hnm ht hK hKS hA hB ls hl
  have hl : lv_has ls 2 [(0, .ref (ad 0)), (1, .int p0)] := hl
  replace S : CallFix p m c cX10_answer 2 s args (_ :: wsL_law) RX10 := S
  rw [FX10_answer] at h
  refine lv_aload_n S.1 S.2.1 dX10_answer_0 rfl (lv_at hl 0 rfl) ?_
  refine lv_iload_n S.1 S.2.1 dX10_answer_1 rfl (lv_at hl 1 rfl) ?_
  obtain ⟨r_1, σ_1, e_1, h⟩ := b2s h
  refine cCallI S hK xKSc hKS hA (gMet.weak (kX10_isStep e_1) (fun _ _ q => q.1)) (cwX10_209 S.2.2.2.2 (rm := rmX10_isStep) rfl rfl ⟨Nat.le_of_ble_eq_true rfl, Nat.le_of_ble_eq_true rfl⟩) hB 0 rfl rfl rfl hl.1 rfl (lv_room (Nat.le_of_ble_eq_true rfl)) dX10_answer_2 ⟨by decide, by decide⟩ (fun H locs hB => ?_)
  refine lv_if_ne (tgt := 18) S.1 S.2.1 dX10_answer_5 (by decide) (fun c_2 => ?_) (fun c_2 => ?_)
  · replace h := (if_neg c_2).symm.trans h
    refine lv_aload_n S.1 S.2.1 dX10_answer_18 rfl (lv_at hl 0 rfl) ?_
    refine tg_0_10 S hK hB (S.2.2.2.2 _ (List.mem_cons_of_mem _ wf_X10_107)) rfl dX10_answer_19 ?_
    refine lv_if_ne (tgt := 36) S.1 S.2.1 dX10_answer_22 (by decide) (fun c_3 => ?_) (fun c_3 => ?_)
    · replace h := (if_neg c_3).symm.trans h
      refine lv_aload_n S.1 S.2.1 dX10_answer_36 rfl (lv_at hl 0 rfl) ?_
      refine tg_0_7 S hK hB (S.2.2.2.2 _ (List.mem_cons_of_mem _ wf_X10_63)) dX10_answer_37 ?_
      refine tgN_54_2 S hK hB (nF hKS.1 31 rfl) dX10_answer_40 ?_
      refine lv_aload_n S.1 S.2.1 dX10_answer_43 rfl (lv_at hl 0 rfl) ?_
      refine tg_0_11 S hK hB (S.2.2.2.2 _ (List.mem_cons_of_mem _ wf_X10_260)) rfl dX10_answer_44 ?_
      refine lv_iload_n S.1 S.2.1 dX10_answer_47 rfl (lv_at hl 1 rfl) ?_
      refine lg_55 (r := (getT 1200 (σ_1.2.2.2.2 2) (σ_1.1 11) p0)) S hK xKSc hKS hA hB rfl (cwX10_196 S.2.2.2.2 (rm := { frames := 0, cells := 0, slots := 0, locals := 0 }) rfl rfl ⟨Nat.le_of_ble_eq_true rfl, Nat.le_of_ble_eq_true rfl⟩) hl.1 (lv_room (Nat.le_of_ble_eq_true rfl)) dX10_answer_48 ⟨Nat.zero_le _, Nat.zero_le _⟩ (fun H locs hB => ?_)
      refine lv_lconst (v := 0) S.1 S.2.1 dX10_answer_51 (by decide) ?_
      refine W.lcmp S.1 S.2.1 dX10_answer_52 ?_
      refine lv_if_eq (tgt := 60) S.1 S.2.1 dX10_answer_53 (by decide) (fun c_4 => ?_) (fun c_4 => ?_)
      · replace c_4 := lc_eq.mp c_4
        replace h := (if_pos c_4).symm.trans h
        refine lv_iconst (v := (0 : Int32)) S.1 S.2.1 dX10_answer_60 (by decide) ?_
        refine W.widen (k := 1) (n := 6) (by decide) (by decide) ?_
        cases h
        exact gXret (gRetZ S.1 S.2.1 hr hlk hB rfl dX10_answer_61)
      · replace c_4 := (not_congr lc_eq).mp c_4
        replace h := (if_neg c_4).symm.trans h
        refine lv_iconst (v := (1 : Int32)) S.1 S.2.1 dX10_answer_56 (by decide) ?_
        refine lv_goto (tgt := 61) S.1 S.2.1 dX10_answer_57 (by decide) ?_
        refine W.widen (k := 1) (n := 6) (by decide) (by decide) ?_
        cases h
        exact gXret (gRetZ S.1 S.2.1 hr hlk hB rfl dX10_answer_61)
    · replace h := (if_pos c_3).symm.trans h
      cases h
      exact xThrW_0 S hl9 hlk ht hKS hB hl.1 (text := "no formula was asked") (List.mem_of_getElem? (i := 70) rfl) dX10_answer_25 dX10_answer_28 dX10_answer_29 dX10_answer_32 dX10_answer_35 (Nat.le_of_ble_eq_true rfl) (Nat.le_of_ble_eq_true rfl) (Nat.le_of_ble_eq_true rfl) (Nat.le_of_ble_eq_true rfl)
  · replace h := (if_pos c_2).symm.trans h
    cases h
    exact xThr_2 S hl9 hlk ht hKS hB hl.1 (text := "no such step") (List.mem_of_getElem? (i := 61) rfl) dX10_answer_8 dX10_answer_11 dX10_answer_12 dX10_answer_14 dX10_answer_17 (Nat.le_of_ble_eq_true rfl) (Nat.le_of_ble_eq_true rfl) (Nat.le_of_ble_eq_true rfl) (Nat.le_of_ble_eq_true rfl)
