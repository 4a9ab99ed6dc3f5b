def FX6_isFormula_11  (x0 : Int32) : Option Int32 :=
    if x0 < (44 : Int32) then
      some (0 : Int32)
    else
      if (49 : Int32) < x0 then
        some (0 : Int32)
      else
        some (1 : Int32)
def FX6_isFormula (p0 : Int32) : Option Int32 :=
  if p0 < (5 : Int32) then
    FX6_isFormula_11 p0
  else
    if p0 ≤ (17 : Int32) then
      some (1 : Int32)
    else
      FX6_isFormula_11 p0
abbrev rmX6_isFormula : Room := { frames := 0, cells := 0, slots := 0, locals := 0 }
set_option maxRecDepth 100000 in
set_option maxHeartbeats 4000000 in
theorem kX6_isFormula {l : Launch} {D : va_G} {cI cJ cQ : ClassId} {adK adV tK : Nat → Nat} {p0 : Int32} {W0 : va_W} {r : Int32} (h : FX6_isFormula p0 = some r) : gMet l yX6_isFormula qX6_isFormula rmX6_isFormula 0 0 D vwCl [(cI, .int), (cJ, .long), (cQ, .array .long)] (cKS adK adV tK) [.int p0] W0 W0 (some (.int r)) := by
  refine gMet.of (cc := cX6_isFormula) (maxL := 1) (ret := (some .boolean)) (by decide) rfl (Nat.le_of_ble_eq_true rfl) ?_
  intro p e s m args below meth c S hr hlk hnm hK hKS hA hB ls hl
  have hl : lv_has ls 1 [(0, .int p0)] := hl
  replace S : CallFix p m c cX6_isFormula 1 s args (_ :: wsL_law) RX6 := S
  rw [FX6_isFormula] at h
  have P11 : ∀ (x0 : Int32) (H : Heap) (locs : List Loc) (ls : Array Slot), FX6_isFormula_11 x0 = some r → gB D vwCl (va_A W0 s.heap.size) s.heap W0 [] H locs → lv_has ls 1 [(0, .int x0)] → W p l e rmX6_isFormula s m args below meth c H locs 0 0 (MQ below (gQ D vwCl W0 W0 (some (.int r)) s.heap.size) args s 0 0 (va_A W0 s.heap.size)) (F0 m 11 ls []) := by
    intro  x0 H locs ls h hB hl
    rw [FX6_isFormula_11] at h
    refine lv_iload_n S.1 S.2.1 dX6_isFormula_11 rfl (lv_at hl 0 rfl) ?_
    refine lv_bipush (v := (44 : Int32)) S.1 S.2.1 dX6_isFormula_12 (by decide) ?_
    refine lv_icmp_lt (tgt := 27) S.1 S.2.1 dX6_isFormula_14 (by decide) (fun c_2 => ?_) (fun c_2 => ?_)
    · replace h := (if_pos c_2).symm.trans h
      refine lv_iconst (v := (0 : Int32)) S.1 S.2.1 dX6_isFormula_27 (by decide) ?_
      cases h
      exact gRetZ S.1 S.2.1 hr hlk hB rfl dX6_isFormula_28
    · replace h := (if_neg c_2).symm.trans h
      refine lv_iload_n S.1 S.2.1 dX6_isFormula_17 rfl (lv_at hl 0 rfl) ?_
      refine lv_bipush (v := (49 : Int32)) S.1 S.2.1 dX6_isFormula_18 (by decide) ?_
      refine lv_icmp_gt (tgt := 27) S.1 S.2.1 dX6_isFormula_20 (by decide) (fun c_3 => ?_) (fun c_3 => ?_)
      · replace h := (if_pos c_3).symm.trans h
        refine lv_iconst (v := (0 : Int32)) S.1 S.2.1 dX6_isFormula_27 (by decide) ?_
        cases h
        exact gRetZ S.1 S.2.1 hr hlk hB rfl dX6_isFormula_28
      · replace h := (if_neg c_3).symm.trans h
        refine lv_iconst (v := (1 : Int32)) S.1 S.2.1 dX6_isFormula_23 (by decide) ?_
        refine lv_goto (tgt := 28) S.1 S.2.1 dX6_isFormula_24 (by decide) ?_
        cases h
        exact gRetZ S.1 S.2.1 hr hlk hB rfl dX6_isFormula_28
  refine lv_iload_n S.1 S.2.1 dX6_isFormula_0 rfl (lv_at hl 0 rfl) ?_
  refine lv_iconst (v := (5 : Int32)) S.1 S.2.1 dX6_isFormula_1 (by decide) ?_
  refine lv_icmp_lt (tgt := 11) S.1 S.2.1 dX6_isFormula_2 (by decide) (fun c_1 => ?_) (fun c_1 => ?_)
  · replace h := (if_pos c_1).symm.trans h
    exact P11  _ _ _ _ h hB hl
  · replace h := (if_neg c_1).symm.trans h
    refine lv_iload_n S.1 S.2.1 dX6_isFormula_5 rfl (lv_at hl 0 rfl) ?_
    refine lv_bipush (v := (17 : Int32)) S.1 S.2.1 dX6_isFormula_6 (by decide) ?_
    refine lv_icmp_le (tgt := 23) S.1 S.2.1 dX6_isFormula_8 (by decide) (fun c_4 => ?_) (fun c_4 => ?_)
    · replace h := (if_pos c_4).symm.trans h
      refine lv_iconst (v := (1 : Int32)) S.1 S.2.1 dX6_isFormula_23 (by decide) ?_
      refine lv_goto (tgt := 28) S.1 S.2.1 dX6_isFormula_24 (by decide) ?_
      cases h
      exact gRetZ S.1 S.2.1 hr hlk hB rfl dX6_isFormula_28
    · replace h := (if_neg c_4).symm.trans h
      exact P11  _ _ _ _ h hB hl
def FX6_first (p0 : Int32) (p1 : Int32) (σ : CS) : Option (Int64 × CS) :=
  some ((getT 1200 (σ.2.2.2.2 2) (getI 1200 (σ.2.2.1 19) p0) p1), σ)
abbrev rmX6_first : Room := { frames := 1, cells := 0, slots := 0, locals := 23 }
set_option maxRecDepth 100000 in
set_option maxHeartbeats 4000000 in
theorem kX6_first {l : Launch} {D : va_G} {cI cJ cQ : ClassId} {ad : Nat → Nat} {ra : Nat → Nat → Nat} {adK adV tK : Nat → Nat} {p0 : Int32} {p1 : Int32} {σ σ' : CS} {r : Int64} (h : FX6_first p0 p1 σ = some (r, σ')) : gMet l yX6_first qX6_first rmX6_first 0 0 D vwCl [(cI, .int), (cJ, .long), (cQ, .array .long)] (cKS adK adV tK) [.ref (ad 54), .int p0, .int p1] (CW cI cJ cQ ad ra σ) (CW cI cJ cQ ad ra σ') (some (.long r)) := by
  refine gMet.of (cc := cX6_first) (maxL := 3) (ret := (some .long)) (by decide) rfl (Nat.le_of_ble_eq_true rfl) ?_
  intro p e s m args below meth c S hr hlk hnm hK hKS hA hB ls hl
  have hl : lv_has ls 3 [(0, .ref (ad 54)), (1, .int p0), (2, .int p1)] := hl
  replace S : CallFix p m c cX6_first 3 s args (_ :: wsL_law) RX6 := S
  rw [FX6_first] at h
  refine lv_aload_n S.1 S.2.1 dX6_first_0 rfl (lv_at hl 0 rfl) ?_
  refine tg_54_2 S hK hB (S.2.2.2.2 _ (List.mem_cons_of_mem _ wf_X6_14)) dX6_first_1 ?_
  refine lv_aload_n S.1 S.2.1 dX6_first_4 rfl (lv_at hl 0 rfl) ?_
  refine tg_54_0 S hK hB (S.2.2.2.2 _ (List.mem_cons_of_mem _ wf_X6_20)) dX6_first_5 ?_
  refine tgN_13_2 S hK hB (nF hKS 7 rfl) dX6_first_8 ?_
  refine lv_iload_n S.1 S.2.1 dX6_first_11 rfl (lv_at hl 1 rfl) ?_
  refine lg_18 (r := (getI 1200 (σ.2.2.1 19) p0)) S hK cKSc hKS hA hB rfl (cwX6_34 S.2.2.2.2 (rm := { frames := 0, cells := 0, slots := 0, locals := 0 }) rfl rfl ⟨Nat.le_of_ble_eq_true rfl, Nat.le_of_ble_eq_true rfl⟩) hl.1 (lv_room (Nat.le_of_ble_eq_true rfl)) dX6_first_12 ⟨Nat.zero_le _, Nat.zero_le _⟩ (fun H locs hB => ?_)
  refine lv_iload_n S.1 S.2.1 dX6_first_15 rfl (lv_at hl 2 rfl) ?_
  refine lg_55 (r := (getT 1200 (σ.2.2.2.2 2) (getI 1200 (σ.2.2.1 19) p0) p1)) S hK cKSc hKS hA hB rfl (cwX6_59 S.2.2.2.2 (rm := { frames := 0, cells := 0, slots := 0, locals := 0 }) rfl rfl ⟨Nat.le_of_ble_eq_true rfl, Nat.le_of_ble_eq_true rfl⟩) hl.1 (lv_room (Nat.le_of_ble_eq_true rfl)) dX6_first_16 ⟨Nat.zero_le _, Nat.zero_le _⟩ (fun H locs hB => ?_)
  cases h
  exact gRetL S.1 S.2.1 hr hlk hB dX6_first_19
def FX6_second (p0 : Int32) (p1 : Int32) (σ : CS) : Option (Int64 × CS) :=
  some ((getT 1200 (σ.2.2.2.2 2) (getI 1200 (σ.2.2.1 21) p0) p1), σ)
abbrev rmX6_second : Room := { frames := 1, cells := 0, slots := 0, locals := 23 }
set_option maxRecDepth 100000 in
set_option maxHeartbeats 4000000 in
theorem kX6_second {l : Launch} {D : va_G} {cI cJ cQ : ClassId} {ad : Nat → Nat} {ra : Nat → Nat → Nat} {adK adV tK : Nat → Nat} {p0 : Int32} {p1 : Int32} {σ σ' : CS} {r : Int64} (h : FX6_second p0 p1 σ = some (r, σ')) : gMet l yX6_second qX6_second rmX6_second 0 0 D vwCl [(cI, .int), (cJ, .long), (cQ, .array .long)] (cKS adK adV tK) [.ref (ad 54), .int p0, .int p1] (CW cI cJ cQ ad ra σ) (CW cI cJ cQ ad ra σ') (some (.long r)) := by
  refine gMet.of (cc := cX6_second) (maxL := 3) (ret := (some .long)) (by decide) rfl (Nat.le_of_ble_eq_true rfl) ?_
  intro p e s m args below meth c S hr hlk hnm hK hKS hA hB ls hl
  have hl : lv_has ls 3 [(0, .ref (ad 54)), (1, .int p0), (2, .int p1)] := hl
  replace S : CallFix p m c cX6_second 3 s args (_ :: wsL_law) RX6 := S
  rw [FX6_second] at h
  refine lv_aload_n S.1 S.2.1 dX6_second_0 rfl (lv_at hl 0 rfl) ?_
  refine tg_54_2 S hK hB (S.2.2.2.2 _ (List.mem_cons_of_mem _ wf_X6_14)) dX6_second_1 ?_
  refine lv_aload_n S.1 S.2.1 dX6_second_4 rfl (lv_at hl 0 rfl) ?_
  refine tg_54_0 S hK hB (S.2.2.2.2 _ (List.mem_cons_of_mem _ wf_X6_20)) dX6_second_5 ?_
  refine tgN_13_3 S hK hB (nF hKS 8 rfl) dX6_second_8 ?_
  refine lv_iload_n S.1 S.2.1 dX6_second_11 rfl (lv_at hl 1 rfl) ?_
  refine lg_20 (r := (getI 1200 (σ.2.2.1 21) p0)) S hK cKSc hKS hA hB rfl (cwX6_34 S.2.2.2.2 (rm := { frames := 0, cells := 0, slots := 0, locals := 0 }) rfl rfl ⟨Nat.le_of_ble_eq_true rfl, Nat.le_of_ble_eq_true rfl⟩) hl.1 (lv_room (Nat.le_of_ble_eq_true rfl)) dX6_second_12 ⟨Nat.zero_le _, Nat.zero_le _⟩ (fun H locs hB => ?_)
  refine lv_iload_n S.1 S.2.1 dX6_second_15 rfl (lv_at hl 2 rfl) ?_
  refine lg_55 (r := (getT 1200 (σ.2.2.2.2 2) (getI 1200 (σ.2.2.1 21) p0) p1)) S hK cKSc hKS hA hB rfl (cwX6_59 S.2.2.2.2 (rm := { frames := 0, cells := 0, slots := 0, locals := 0 }) rfl rfl ⟨Nat.le_of_ble_eq_true rfl, Nat.le_of_ble_eq_true rfl⟩) hl.1 (lv_room (Nat.le_of_ble_eq_true rfl)) dX6_second_16 ⟨Nat.zero_le _, Nat.zero_le _⟩ (fun H locs hB => ?_)
  cases h
  exact gRetL S.1 S.2.1 hr hlk hB dX6_second_19
def FX6_isEndless (p0 : Int32) (σ : CS) : Option (Int32 × CS) :=
  if (getI 1200 (σ.2.2.1 27) p0) = (1000000 : Int32) then
    some ((1 : Int32), σ)
  else
    some ((0 : Int32), σ)
abbrev rmX6_isEndless : Room := { frames := 1, cells := 0, slots := 0, locals := 21 }
set_option maxRecDepth 100000 in
set_option maxHeartbeats 4000000 in
theorem kX6_isEndless {l : Launch} {D : va_G} {cI cJ cQ : ClassId} {ad : Nat → Nat} {ra : Nat → Nat → Nat} {adK adV tK : Nat → Nat} {p0 : Int32} {σ σ' : CS} {r : Int32} (h : FX6_isEndless p0 σ = some (r, σ')) : gMet l yX6_isEndless qX6_isEndless rmX6_isEndless 0 0 D vwCl [(cI, .int), (cJ, .long), (cQ, .array .long)] (cKS adK adV tK) [.ref (ad 54), .int p0] (CW cI cJ cQ ad ra σ) (CW cI cJ cQ ad ra σ') (some (.int r)) := by
  refine gMet.of (cc := cX6_isEndless) (maxL := 2) (ret := (some .boolean)) (by decide) rfl (Nat.le_of_ble_eq_true rfl) ?_
  intro p e s m args below meth c S hr hlk hnm hK hKS hA hB ls hl
  have hl : lv_has ls 2 [(0, .ref (ad 54)), (1, .int p0)] := hl
  replace S : CallFix p m c cX6_isEndless 2 s args (_ :: wsL_law) RX6 := S
  rw [FX6_isEndless] at h
  refine lv_aload_n S.1 S.2.1 dX6_isEndless_0 rfl (lv_at hl 0 rfl) ?_
  refine tg_54_0 S hK hB (S.2.2.2.2 _ (List.mem_cons_of_mem _ wf_X6_20)) dX6_isEndless_1 ?_
  refine tgN_13_6 S hK hB (nF hKS 12 rfl) dX6_isEndless_4 ?_
  refine lv_iload_n S.1 S.2.1 dX6_isEndless_7 rfl (lv_at hl 1 rfl) ?_
  refine lg_26 (r := (getI 1200 (σ.2.2.1 27) p0)) S hK cKSc hKS hA hB rfl (cwX6_34 S.2.2.2.2 (rm := { frames := 0, cells := 0, slots := 0, locals := 0 }) rfl rfl ⟨Nat.le_of_ble_eq_true rfl, Nat.le_of_ble_eq_true rfl⟩) hl.1 (lv_room (Nat.le_of_ble_eq_true rfl)) dX6_isEndless_8 ⟨Nat.zero_le _, Nat.zero_le _⟩ (fun H locs hB => ?_)
  refine lv_ldc (v := 1000000) S.1 S.2.1 S.2.2.2.1 (S.2.2.2.2 _ (List.mem_cons_of_mem _ wc_X6_82)) dX6_isEndless_11 ?_
  refine lv_icmp_ne (tgt := 20) S.1 S.2.1 dX6_isEndless_13 (by decide) (fun c_1 => ?_) (fun c_1 => ?_)
  · replace h := (if_neg c_1).symm.trans h
    refine lv_iconst (v := (0 : Int32)) S.1 S.2.1 dX6_isEndless_20 (by decide) ?_
    cases h
    exact gRetZ S.1 S.2.1 hr hlk hB rfl dX6_isEndless_21
  · replace h := (if_pos c_1).symm.trans h
    refine lv_iconst (v := (1 : Int32)) S.1 S.2.1 dX6_isEndless_16 (by decide) ?_
    refine lv_goto (tgt := 21) S.1 S.2.1 dX6_isEndless_17 (by decide) ?_
    cases h
    exact gRetZ S.1 S.2.1 hr hlk hB rfl dX6_isEndless_21
def FX6_age (p0 : Int32) (p1 : Int32) (σ : CS) : Option (Int32 × CS) :=
  some (((getI 120 (σ.2.2.1 46) p0) - (getI 120 (σ.2.2.1 46) p1)), σ)
abbrev rmX6_age : Room := { frames := 1, cells := 0, slots := 0, locals := 21 }
set_option maxRecDepth 100000 in
set_option maxHeartbeats 4000000 in
theorem kX6_age {l : Launch} {D : va_G} {cI cJ cQ : ClassId} {ad : Nat → Nat} {ra : Nat → Nat → Nat} {adK adV tK : Nat → Nat} {p0 : Int32} {p1 : Int32} {σ σ' : CS} {r : Int32} (h : FX6_age p0 p1 σ = some (r, σ')) : gMet l yX6_age qX6_age rmX6_age 0 0 D vwCl [(cI, .int), (cJ, .long), (cQ, .array .long)] (cKS adK adV tK) [.ref (ad 54), .int p0, .int p1] (CW cI cJ cQ ad ra σ) (CW cI cJ cQ ad ra σ') (some (.int r)) := by
  refine gMet.of (cc := cX6_age) (maxL := 3) (ret := (some .int)) (by decide) rfl (Nat.le_of_ble_eq_true rfl) ?_
  intro p e s m args below meth c S hr hlk hnm hK hKS hA hB ls hl
  have hl : lv_has ls 3 [(0, .ref (ad 54)), (1, .int p0), (2, .int p1)] := hl
  replace S : CallFix p m c cX6_age 3 s args (_ :: wsL_law) RX6 := S
  rw [FX6_age] at h
  refine lv_aload_n S.1 S.2.1 dX6_age_0 rfl (lv_at hl 0 rfl) ?_
  refine tg_54_1 S hK hB (S.2.2.2.2 _ (List.mem_cons_of_mem _ wf_X6_24)) dX6_age_1 ?_
  refine tgN_44_0 S hK hB (nF hKS 25 rfl) dX6_age_4 ?_
  refine lv_iload_n S.1 S.2.1 dX6_age_7 rfl (lv_at hl 1 rfl) ?_
  refine lg_45 (r := (getI 120 (σ.2.2.1 46) p0)) S hK cKSc hKS hA hB rfl (cwX6_34 S.2.2.2.2 (rm := { frames := 0, cells := 0, slots := 0, locals := 0 }) rfl rfl ⟨Nat.le_of_ble_eq_true rfl, Nat.le_of_ble_eq_true rfl⟩) hl.1 (lv_room (Nat.le_of_ble_eq_true rfl)) dX6_age_8 ⟨Nat.zero_le _, Nat.zero_le _⟩ (fun H locs hB => ?_)
  refine lv_aload_n S.1 S.2.1 dX6_age_11 rfl (lv_at hl 0 rfl) ?_
  refine tg_54_1 S hK hB (S.2.2.2.2 _ (List.mem_cons_of_mem _ wf_X6_24)) dX6_age_12 ?_
  refine tgN_44_0 S hK hB (nF hKS 25 rfl) dX6_age_15 ?_
  refine lv_iload_n S.1 S.2.1 dX6_age_18 rfl (lv_at hl 2 rfl) ?_
  refine lg_45 (r := (getI 120 (σ.2.2.1 46) p1)) S hK cKSc hKS hA hB rfl (cwX6_34 S.2.2.2.2 (rm := { frames := 0, cells := 0, slots := 0, locals := 0 }) rfl rfl ⟨Nat.le_of_ble_eq_true rfl, Nat.le_of_ble_eq_true rfl⟩) hl.1 (lv_room (Nat.le_of_ble_eq_true rfl)) dX6_age_19 ⟨Nat.zero_le _, Nat.zero_le _⟩ (fun H locs hB => ?_)
  refine lv_isub S.1 S.2.1 dX6_age_22 ?_
  cases h
  exact gRetI S.1 S.2.1 hr hlk hB dX6_age_23
def FX6_once_69 (L : Nat)  : Nat → Int32 → Int32 → Int32 → Int32 → Int32 → CS → Option (Int32 × CS)
  | 0, _, _, _, _, _, _ => none
  | n+1, x1, x2, x3, x4, x5, σ1 =>
    if x5 < 0 then
      some ((0 : Int32), σ1)
    else
      b2 (FX6_age x2 x5 σ1) fun r_4 σ_4 =>
      if x3 < r_4 then
        some ((0 : Int32), σ_4)
      else
        b2 (FX6_age x2 x5 σ_4) fun r_6 σ_6 =>
        if r_6 < x4 then
          (FX6_once_69 L n) x1 x2 x3 x4 (x5 + (-1 : Int32)) σ_6
        else
          b2 (FX6_first x1 x5 σ_6) fun r_8 σ_8 =>
          if r_8 = (0 : Int64) then
            (FX6_once_69 L n) x1 x2 x3 x4 (x5 + (-1 : Int32)) σ_8
          else
            some ((1 : Int32), σ_8)
def FX6_once (L : Nat) (p0 : Int32) (p1 : Int32) (σ : CS) : Option (Int32 × CS) :=
  b2 (FX6_isEndless p0 σ) fun r_1 σ_1 =>
  if r_1 = 0 then
    FX6_once_69 L L p0 p1 (getI 1200 (σ_1.2.2.1 27) p0) (getI 1200 (σ_1.2.2.1 25) p0) p1 σ_1
  else
    b2 (FX6_first p0 p1 σ_1) fun r_10 σ_10 =>
    if r_10 = (0 : Int64) then
      if (getT 1200 (σ_10.2.2.2.2 2) p0 (p1 - (1 : Int32))) = (0 : Int64) then
        some ((0 : Int32), σ_10)
      else
        some ((1 : Int32), σ_10)
    else
      some ((1 : Int32), σ_10)
abbrev rmX6_once : Room := { frames := 2, cells := 0, slots := 0, locals := 45 }
set_option maxRecDepth 100000 in
set_option maxHeartbeats 4000000 in
theorem kX6_once {l : Launch} {D : va_G} {cI cJ cQ : ClassId} {ad : Nat → Nat} {ra : Nat → Nat → Nat} {adK adV tK : Nat → Nat} {L : Nat} {p0 : Int32} {p1 : Int32} {σ σ' : CS} {r : Int32} (h : FX6_once L p0 p1 σ = some (r, σ')) : gMet l yX6_once qX6_once rmX6_once 0 0 D vwCl [(cI, .int), (cJ, .long), (cQ, .array .long)] (cKS adK adV tK) [.ref (ad 54), .int p0, .int p1] (CW cI cJ cQ ad ra σ) (CW cI cJ cQ ad ra σ') (some (.int r)) := by
  refine gMet.of (cc := cX6_once) (maxL := 6) (ret := (some .boolean)) (by decide) rfl (Nat.le_of_ble_eq_true rfl) ?_
  intro p e s m args below meth c S hr hlk hnm hK hKS hA hB ls hl
  have hl : lv_has ls 6 [(0, .ref (ad 54)), (1, .int p0), (2, .int p1)] := hl
  replace S : CallFix p m c cX6_once 6 s args (_ :: wsL_law) RX6 := S
  rw [FX6_once] at h
  have P69 : ∀  (n : Nat), ∀ (x1 : Int32) (x2 : Int32) (x3 : Int32) (x4 : Int32) (x5 : Int32) (σ1 : CS) (H : Heap) (locs : List Loc) (ls : Array Slot), FX6_once_69 L n x1 x2 x3 x4 x5 σ1 = some (r, σ') → gB D vwCl (va_A (CW cI cJ cQ ad ra σ) s.heap.size) s.heap (CW cI cJ cQ ad ra σ1) [] H locs → lv_has ls 6 [(0, .ref (ad 54)), (1, .int x1), (2, .int x2), (3, .int x3), (4, .int x4), (5, .int x5)] → W p l e rmX6_once s m args below meth c H locs 0 0 (MQ below (gQ D vwCl (CW cI cJ cQ ad ra σ) (CW cI cJ cQ ad ra σ') (some (.int r)) s.heap.size) args s 0 0 (va_A (CW cI cJ cQ ad ra σ) s.heap.size)) (F0 m 69 ls []) := by
    intro n
    induction n with
    | zero => intro x1 x2 x3 x4 x5 σ1 H locs ls h; simp only [FX6_once_69] at h; cases h
    | succ n ih =>
      intro x1 x2 x3 x4 x5 σ1 H locs ls h hB hl
      rw [FX6_once_69] at h
      refine lv_iload S.1 S.2.1 dX6_once_69 (lv_at hl 5 rfl) ?_
      refine lv_if_lt (tgt := 117) S.1 S.2.1 dX6_once_71 (by decide) (fun c_3 => ?_) (fun c_3 => ?_)
      · replace h := (if_pos c_3).symm.trans h
        refine lv_iconst (v := (0 : Int32)) S.1 S.2.1 dX6_once_117 (by decide) ?_
        cases h
        exact gRetZ S.1 S.2.1 hr hlk hB rfl dX6_once_118
      · replace h := (if_neg c_3).symm.trans h
        refine lv_aload_n S.1 S.2.1 dX6_once_74 rfl (lv_at hl 0 rfl) ?_
        refine lv_iload_n S.1 S.2.1 dX6_once_75 rfl (lv_at hl 2 rfl) ?_
        refine lv_iload S.1 S.2.1 dX6_once_76 (lv_at hl 5 rfl) ?_
        obtain ⟨r_4, σ_4, e_4, h⟩ := b2s h
        refine cCallI S hK cKSc hKS hA (kX6_age e_4) (cwX6_94 S.2.2.2.2 (rm := rmX6_age) rfl rfl ⟨Nat.le_of_ble_eq_true rfl, Nat.le_of_ble_eq_true rfl⟩) hB 54 rfl rfl rfl hl.1 rfl (lv_room (Nat.le_of_ble_eq_true rfl)) dX6_once_78 ⟨Nat.zero_le _, Nat.zero_le _⟩ (fun H locs hB => ?_)
        refine lv_iload_n S.1 S.2.1 dX6_once_81 rfl (lv_at hl 3 rfl) ?_
        refine lv_icmp_gt (tgt := 117) S.1 S.2.1 dX6_once_82 (by decide) (fun c_5 => ?_) (fun c_5 => ?_)
        · replace h := (if_pos c_5).symm.trans h
          refine lv_iconst (v := (0 : Int32)) S.1 S.2.1 dX6_once_117 (by decide) ?_
          cases h
          exact gRetZ S.1 S.2.1 hr hlk hB rfl dX6_once_118
        · replace h := (if_neg c_5).symm.trans h
          refine lv_aload_n S.1 S.2.1 dX6_once_85 rfl (lv_at hl 0 rfl) ?_
          refine lv_iload_n S.1 S.2.1 dX6_once_86 rfl (lv_at hl 2 rfl) ?_
          refine lv_iload S.1 S.2.1 dX6_once_87 (lv_at hl 5 rfl) ?_
          obtain ⟨r_6, σ_6, e_6, h⟩ := b2s h
          refine cCallI S hK cKSc hKS hA (kX6_age e_6) (cwX6_94 S.2.2.2.2 (rm := rmX6_age) rfl rfl ⟨Nat.le_of_ble_eq_true rfl, Nat.le_of_ble_eq_true rfl⟩) hB 54 rfl rfl rfl hl.1 rfl (lv_room (Nat.le_of_ble_eq_true rfl)) dX6_once_89 ⟨Nat.zero_le _, Nat.zero_le _⟩ (fun H locs hB => ?_)
          refine lv_iload S.1 S.2.1 dX6_once_92 (lv_at hl 4 rfl) ?_
          refine lv_icmp_lt (tgt := 111) S.1 S.2.1 dX6_once_94 (by decide) (fun c_7 => ?_) (fun c_7 => ?_)
          · replace h := (if_pos c_7).symm.trans h
            refine lv_iinc (v := (x5 + (-1 : Int32))) (lv' := [(5, .int (x5 + (-1 : Int32))), (0, .ref (ad 54)), (1, .int x1), (2, .int x2), (3, .int x3), (4, .int x4)]) S.1 S.2.1 dX6_once_111 hl (k := 5) rfl rfl (by decide) rfl (fun ls hl => ?_)
            refine lv_goto (tgt := 69) S.1 S.2.1 dX6_once_114 (by decide) ?_
            exact ih _ _ _ _ _ _ _ _ _ h hB (lv_sub hl [1, 2, 3, 4, 5, 0] rfl)
          · replace h := (if_neg c_7).symm.trans h
            refine lv_aload_n S.1 S.2.1 dX6_once_97 rfl (lv_at hl 0 rfl) ?_
            refine lv_iload_n S.1 S.2.1 dX6_once_98 rfl (lv_at hl 1 rfl) ?_
            refine lv_iload S.1 S.2.1 dX6_once_99 (lv_at hl 5 rfl) ?_
            obtain ⟨r_8, σ_8, e_8, h⟩ := b2s h
            refine cCallL S hK cKSc hKS hA (kX6_first e_8) (cwX6_64 S.2.2.2.2 (rm := rmX6_first) rfl rfl ⟨Nat.le_of_ble_eq_true rfl, Nat.le_of_ble_eq_true rfl⟩) hB 54 rfl rfl rfl hl.1 rfl (lv_room (Nat.le_of_ble_eq_true rfl)) dX6_once_101 ⟨Nat.zero_le _, Nat.zero_le _⟩ (fun H locs hB => ?_)
            refine lv_lconst (v := 0) S.1 S.2.1 dX6_once_104 (by decide) ?_
            refine W.lcmp S.1 S.2.1 dX6_once_105 ?_
            refine lv_if_eq (tgt := 111) S.1 S.2.1 dX6_once_106 (by decide) (fun c_9 => ?_) (fun c_9 => ?_)
            · replace c_9 := lc_eq.mp c_9
              replace h := (if_pos c_9).symm.trans h
              refine lv_iinc (v := (x5 + (-1 : Int32))) (lv' := [(5, .int (x5 + (-1 : Int32))), (0, .ref (ad 54)), (1, .int x1), (2, .int x2), (3, .int x3), (4, .int x4)]) S.1 S.2.1 dX6_once_111 hl (k := 5) rfl rfl (by decide) rfl (fun ls hl => ?_)
              refine lv_goto (tgt := 69) S.1 S.2.1 dX6_once_114 (by decide) ?_
              exact ih _ _ _ _ _ _ _ _ _ h hB (lv_sub hl [1, 2, 3, 4, 5, 0] rfl)
            · replace c_9 := (not_congr lc_eq).mp c_9
              replace h := (if_neg c_9).symm.trans h
              refine lv_iconst (v := (1 : Int32)) S.1 S.2.1 dX6_once_109 (by decide) ?_
              cases h
              exact gRetZ S.1 S.2.1 hr hlk hB rfl dX6_once_110
  refine lv_aload_n S.1 S.2.1 dX6_once_0 rfl (lv_at hl 0 rfl) ?_
  refine lv_iload_n S.1 S.2.1 dX6_once_1 rfl (lv_at hl 1 rfl) ?_
  obtain ⟨r_1, σ_1, e_1, h⟩ := b2s h
  refine cCallI S hK cKSc hKS hA (kX6_isEndless e_1) (cwX6_88 S.2.2.2.2 (rm := rmX6_isEndless) rfl rfl ⟨Nat.le_of_ble_eq_true rfl, Nat.le_of_ble_eq_true rfl⟩) hB 54 rfl rfl rfl hl.1 rfl (lv_room (Nat.le_of_ble_eq_true rfl)) dX6_once_2 ⟨Nat.zero_le _, Nat.zero_le _⟩ (fun H locs hB => ?_)
  refine lv_if_eq (tgt := 41) S.1 S.2.1 dX6_once_5 (by decide) (fun c_2 => ?_) (fun c_2 => ?_)
  · replace h := (if_pos c_2).symm.trans h
    refine lv_aload_n S.1 S.2.1 dX6_once_41 rfl (lv_at hl 0 rfl) ?_
    refine tg_54_0 S hK hB (S.2.2.2.2 _ (List.mem_cons_of_mem _ wf_X6_20)) dX6_once_42 ?_
    refine tgN_13_6 S hK hB (nF hKS 12 rfl) dX6_once_45 ?_
    refine lv_iload_n S.1 S.2.1 dX6_once_48 rfl (lv_at hl 1 rfl) ?_
    refine lg_26 (r := (getI 1200 (σ_1.2.2.1 27) p0)) S hK cKSc hKS hA hB rfl (cwX6_34 S.2.2.2.2 (rm := { frames := 0, cells := 0, slots := 0, locals := 0 }) rfl rfl ⟨Nat.le_of_ble_eq_true rfl, Nat.le_of_ble_eq_true rfl⟩) hl.1 (lv_room (Nat.le_of_ble_eq_true rfl)) dX6_once_49 ⟨Nat.zero_le _, Nat.zero_le _⟩ (fun H locs hB => ?_)
    refine lv_istore_n (lv' := [(3, .int (getI 1200 (σ_1.2.2.1 27) p0)), (0, .ref (ad 54)), (1, .int p0), (2, .int p1)]) S.1 S.2.1 dX6_once_52 rfl hl (by decide) rfl (fun ls hl => ?_)
    refine lv_aload_n S.1 S.2.1 dX6_once_53 rfl (lv_at hl 1 rfl) ?_
    refine tg_54_0 S hK hB (S.2.2.2.2 _ (List.mem_cons_of_mem _ wf_X6_20)) dX6_once_54 ?_
    refine tgN_13_5 S hK hB (nF hKS 11 rfl) dX6_once_57 ?_
    refine lv_iload_n S.1 S.2.1 dX6_once_60 rfl (lv_at hl 2 rfl) ?_
    refine lg_24 (r := (getI 1200 (σ_1.2.2.1 25) p0)) S hK cKSc hKS hA hB rfl (cwX6_34 S.2.2.2.2 (rm := { frames := 0, cells := 0, slots := 0, locals := 0 }) rfl rfl ⟨Nat.le_of_ble_eq_true rfl, Nat.le_of_ble_eq_true rfl⟩) hl.1 (lv_room (Nat.le_of_ble_eq_true rfl)) dX6_once_61 ⟨Nat.zero_le _, Nat.zero_le _⟩ (fun H locs hB => ?_)
    refine lv_istore (lv' := [(4, .int (getI 1200 (σ_1.2.2.1 25) p0)), (3, .int (getI 1200 (σ_1.2.2.1 27) p0)), (0, .ref (ad 54)), (1, .int p0), (2, .int p1)]) S.1 S.2.1 dX6_once_64 hl (by decide) rfl (fun ls hl => ?_)
    refine lv_iload_n S.1 S.2.1 dX6_once_66 rfl (lv_at hl 4 rfl) ?_
    refine lv_istore (lv' := [(5, .int p1), (4, .int (getI 1200 (σ_1.2.2.1 25) p0)), (3, .int (getI 1200 (σ_1.2.2.1 27) p0)), (0, .ref (ad 54)), (1, .int p0), (2, .int p1)]) S.1 S.2.1 dX6_once_67 hl (by decide) rfl (fun ls hl => ?_)
    exact P69  L _ _ _ _ _ _ _ _ _ h hB (lv_sub hl [3, 4, 5, 2, 1, 0] rfl)
  · replace h := (if_neg c_2).symm.trans h
    refine lv_aload_n S.1 S.2.1 dX6_once_8 rfl (lv_at hl 0 rfl) ?_
    refine lv_iload_n S.1 S.2.1 dX6_once_9 rfl (lv_at hl 1 rfl) ?_
    refine lv_iload_n S.1 S.2.1 dX6_once_10 rfl (lv_at hl 2 rfl) ?_
    obtain ⟨r_10, σ_10, e_10, h⟩ := b2s h
    refine cCallL S hK cKSc hKS hA (kX6_first e_10) (cwX6_64 S.2.2.2.2 (rm := rmX6_first) rfl rfl ⟨Nat.le_of_ble_eq_true rfl, Nat.le_of_ble_eq_true rfl⟩) hB 54 rfl rfl rfl hl.1 rfl (lv_room (Nat.le_of_ble_eq_true rfl)) dX6_once_11 ⟨Nat.zero_le _, Nat.zero_le _⟩ (fun H locs hB => ?_)
    refine lv_lconst (v := 0) S.1 S.2.1 dX6_once_14 (by decide) ?_
    refine W.lcmp S.1 S.2.1 dX6_once_15 ?_
    refine lv_if_ne (tgt := 35) S.1 S.2.1 dX6_once_16 (by decide) (fun c_11 => ?_) (fun c_11 => ?_)
    · replace c_11 := (not_congr lc_eq).mp c_11
      replace h := (if_neg c_11).symm.trans h
      refine lv_iconst (v := (1 : Int32)) S.1 S.2.1 dX6_once_35 (by decide) ?_
      refine lv_goto (tgt := 40) S.1 S.2.1 dX6_once_36 (by decide) ?_
      cases h
      exact gRetZ S.1 S.2.1 hr hlk hB rfl dX6_once_40
    · replace c_11 := lc_eq.mp c_11
      replace h := (if_pos c_11).symm.trans h
      refine lv_aload_n S.1 S.2.1 dX6_once_19 rfl (lv_at hl 0 rfl) ?_
      refine tg_54_2 S hK hB (S.2.2.2.2 _ (List.mem_cons_of_mem _ wf_X6_14)) dX6_once_20 ?_
      refine lv_iload_n S.1 S.2.1 dX6_once_23 rfl (lv_at hl 1 rfl) ?_
      refine lv_iload_n S.1 S.2.1 dX6_once_24 rfl (lv_at hl 2 rfl) ?_
      refine lv_iconst (v := (1 : Int32)) S.1 S.2.1 dX6_once_25 (by decide) ?_
      refine lv_isub S.1 S.2.1 dX6_once_26 ?_
      refine lg_55 (r := (getT 1200 (σ_10.2.2.2.2 2) p0 (p1 - (1 : Int32)))) S hK cKSc hKS hA hB rfl (cwX6_59 S.2.2.2.2 (rm := { frames := 0, cells := 0, slots := 0, locals := 0 }) rfl rfl ⟨Nat.le_of_ble_eq_true rfl, Nat.le_of_ble_eq_true rfl⟩) hl.1 (lv_room (Nat.le_of_ble_eq_true rfl)) dX6_once_27 ⟨Nat.zero_le _, Nat.zero_le _⟩ (fun H locs hB => ?_)
      refine lv_lconst (v := 0) S.1 S.2.1 dX6_once_30 (by decide) ?_
      refine W.lcmp S.1 S.2.1 dX6_once_31 ?_
      refine lv_if_eq (tgt := 39) S.1 S.2.1 dX6_once_32 (by decide) (fun c_12 => ?_) (fun c_12 => ?_)
      · replace c_12 := lc_eq.mp c_12
        replace h := (if_pos c_12).symm.trans h
        refine lv_iconst (v := (0 : Int32)) S.1 S.2.1 dX6_once_39 (by decide) ?_
        cases h
        exact gRetZ S.1 S.2.1 hr hlk hB rfl dX6_once_40
      · replace c_12 := (not_congr lc_eq).mp c_12
        replace h := (if_neg c_12).symm.trans h
        refine lv_iconst (v := (1 : Int32)) S.1 S.2.1 dX6_once_35 (by decide) ?_
        refine lv_goto (tgt := 40) S.1 S.2.1 dX6_once_36 (by decide) ?_
        cases h
        exact gRetZ S.1 S.2.1 hr hlk hB rfl dX6_once_40
def FX6_firstBreak_28 (L : Nat)  : Nat → Int32 → Int32 → Int32 → Int32 → Int32 → CS → Option (Int32 × CS)
  | 0, _, _, _, _, _, _ => none
  | n+1, x1, x2, x3, x4, x5, σ1 =>
    if x2 < x5 then
      some ((-1 : Int32), σ1)
    else
      b2 (FX6_age x2 x5 σ1) fun r_2 σ_2 =>
      if r_2 < x4 then
        (FX6_firstBreak_28 L n) x1 x2 x3 x4 (x5 + (1 : Int32)) σ_2
      else
        if x3 < r_2 then
          (FX6_firstBreak_28 L n) x1 x2 x3 x4 (x5 + (1 : Int32)) σ_2
        else
          b2 (FX6_first x1 x5 σ_2) fun r_5 σ_5 =>
          if r_5 = (0 : Int64) then
            some (x5, σ_5)
          else
            (FX6_firstBreak_28 L n) x1 x2 x3 x4 (x5 + (1 : Int32)) σ_5
def FX6_firstBreak (L : Nat) (p0 : Int32) (p1 : Int32) (σ : CS) : Option (Int32 × CS) :=
  FX6_firstBreak_28 L L p0 p1 (getI 1200 (σ.2.2.1 27) p0) (getI 1200 (σ.2.2.1 25) p0) (0 : Int32) σ
abbrev rmX6_firstBreak : Room := { frames := 2, cells := 0, slots := 0, locals := 45 }
set_option maxRecDepth 100000 in
set_option maxHeartbeats 4000000 in
theorem kX6_firstBreak {l : Launch} {D : va_G} {cI cJ cQ : ClassId} {ad : Nat → Nat} {ra : Nat → Nat → Nat} {adK adV tK : Nat → Nat} {L : Nat} {p0 : Int32} {p1 : Int32} {σ σ' : CS} {r : Int32} (h : FX6_firstBreak L p0 p1 σ = some (r, σ')) : gMet l yX6_firstBreak qX6_firstBreak rmX6_firstBreak 0 0 D vwCl [(cI, .int), (cJ, .long), (cQ, .array .long)] (cKS adK adV tK) [.ref (ad 54), .int p0, .int p1] (CW cI cJ cQ ad ra σ) (CW cI cJ cQ ad ra σ') (some (.int r)) := by
  refine gMet.of (cc := cX6_firstBreak) (maxL := 7) (ret := (some .int)) (by decide) rfl (Nat.le_of_ble_eq_true rfl) ?_
  intro p e s m args below meth c S hr hlk hnm hK hKS hA hB ls hl
  have hl : lv_has ls 7 [(0, .ref (ad 54)), (1, .int p0), (2, .int p1)] := hl
  replace S : CallFix p m c cX6_firstBreak 7 s args (_ :: wsL_law) RX6 := S
  rw [FX6_firstBreak] at h
  have P28 : ∀  (n : Nat), ∀ (x1 : Int32) (x2 : Int32) (x3 : Int32) (x4 : Int32) (x5 : Int32) (σ1 : CS) (H : Heap) (locs : List Loc) (ls : Array Slot), FX6_firstBreak_28 L n x1 x2 x3 x4 x5 σ1 = some (r, σ') → gB D vwCl (va_A (CW cI cJ cQ ad ra σ) s.heap.size) s.heap (CW cI cJ cQ ad ra σ1) [] H locs → lv_has ls 7 [(0, .ref (ad 54)), (1, .int x1), (2, .int x2), (3, .int x3), (4, .int x4), (5, .int x5)] → W p l e rmX6_firstBreak s m args below meth c H locs 0 0 (MQ below (gQ D vwCl (CW cI cJ cQ ad ra σ) (CW cI cJ cQ ad ra σ') (some (.int r)) s.heap.size) args s 0 0 (va_A (CW cI cJ cQ ad ra σ) s.heap.size)) (F0 m 28 ls []) := by
    intro n
    induction n with
    | zero => intro x1 x2 x3 x4 x5 σ1 H locs ls h; simp only [FX6_firstBreak_28] at h; cases h
    | succ n ih =>
      intro x1 x2 x3 x4 x5 σ1 H locs ls h hB hl
      rw [FX6_firstBreak_28] at h
      refine lv_iload S.1 S.2.1 dX6_firstBreak_28 (lv_at hl 5 rfl) ?_
      refine lv_iload_n S.1 S.2.1 dX6_firstBreak_30 rfl (lv_at hl 2 rfl) ?_
      refine lv_icmp_gt (tgt := 77) S.1 S.2.1 dX6_firstBreak_31 (by decide) (fun c_1 => ?_) (fun c_1 => ?_)
      · replace h := (if_pos c_1).symm.trans h
        refine lv_iconst (v := (-1 : Int32)) S.1 S.2.1 dX6_firstBreak_77 (by decide) ?_
        cases h
        exact gRetI S.1 S.2.1 hr hlk hB dX6_firstBreak_78
      · replace h := (if_neg c_1).symm.trans h
        refine lv_aload_n S.1 S.2.1 dX6_firstBreak_34 rfl (lv_at hl 0 rfl) ?_
        refine lv_iload_n S.1 S.2.1 dX6_firstBreak_35 rfl (lv_at hl 2 rfl) ?_
        refine lv_iload S.1 S.2.1 dX6_firstBreak_36 (lv_at hl 5 rfl) ?_
        obtain ⟨r_2, σ_2, e_2, h⟩ := b2s h
        refine cCallI S hK cKSc hKS hA (kX6_age e_2) (cwX6_94 S.2.2.2.2 (rm := rmX6_age) rfl rfl ⟨Nat.le_of_ble_eq_true rfl, Nat.le_of_ble_eq_true rfl⟩) hB 54 rfl rfl rfl hl.1 rfl (lv_room (Nat.le_of_ble_eq_true rfl)) dX6_firstBreak_38 ⟨Nat.zero_le _, Nat.zero_le _⟩ (fun H locs hB => ?_)
        refine lv_istore (lv' := [(6, .int r_2), (0, .ref (ad 54)), (1, .int x1), (2, .int x2), (3, .int x3), (4, .int x4), (5, .int x5)]) S.1 S.2.1 dX6_firstBreak_41 hl (by decide) rfl (fun ls hl => ?_)
        refine lv_iload S.1 S.2.1 dX6_firstBreak_43 (lv_at hl 0 rfl) ?_
        refine lv_iload S.1 S.2.1 dX6_firstBreak_45 (lv_at hl 5 rfl) ?_
        refine lv_icmp_lt (tgt := 71) S.1 S.2.1 dX6_firstBreak_47 (by decide) (fun c_3 => ?_) (fun c_3 => ?_)
        · replace h := (if_pos c_3).symm.trans h
          refine lv_iinc (v := (x5 + (1 : Int32))) (lv' := [(5, .int (x5 + (1 : Int32))), (6, .int r_2), (0, .ref (ad 54)), (1, .int x1), (2, .int x2), (3, .int x3), (4, .int x4)]) S.1 S.2.1 dX6_firstBreak_71 hl (k := 6) rfl rfl (by decide) rfl (fun ls hl => ?_)
          refine lv_goto (tgt := 28) S.1 S.2.1 dX6_firstBreak_74 (by decide) ?_
          exact ih _ _ _ _ _ _ _ _ _ h hB (lv_sub hl [2, 3, 4, 5, 6, 0] rfl)
        · replace h := (if_neg c_3).symm.trans h
          refine lv_iload S.1 S.2.1 dX6_firstBreak_50 (lv_at hl 0 rfl) ?_
          refine lv_iload_n S.1 S.2.1 dX6_firstBreak_52 rfl (lv_at hl 4 rfl) ?_
          refine lv_icmp_gt (tgt := 71) S.1 S.2.1 dX6_firstBreak_53 (by decide) (fun c_4 => ?_) (fun c_4 => ?_)
          · replace h := (if_pos c_4).symm.trans h
            refine lv_iinc (v := (x5 + (1 : Int32))) (lv' := [(5, .int (x5 + (1 : Int32))), (6, .int r_2), (0, .ref (ad 54)), (1, .int x1), (2, .int x2), (3, .int x3), (4, .int x4)]) S.1 S.2.1 dX6_firstBreak_71 hl (k := 6) rfl rfl (by decide) rfl (fun ls hl => ?_)
            refine lv_goto (tgt := 28) S.1 S.2.1 dX6_firstBreak_74 (by decide) ?_
            exact ih _ _ _ _ _ _ _ _ _ h hB (lv_sub hl [2, 3, 4, 5, 6, 0] rfl)
          · replace h := (if_neg c_4).symm.trans h
            refine lv_aload_n S.1 S.2.1 dX6_firstBreak_56 rfl (lv_at hl 1 rfl) ?_
            refine lv_iload_n S.1 S.2.1 dX6_firstBreak_57 rfl (lv_at hl 2 rfl) ?_
            refine lv_iload S.1 S.2.1 dX6_firstBreak_58 (lv_at hl 6 rfl) ?_
            obtain ⟨r_5, σ_5, e_5, h⟩ := b2s h
            refine cCallL S hK cKSc hKS hA (kX6_first e_5) (cwX6_64 S.2.2.2.2 (rm := rmX6_first) rfl rfl ⟨Nat.le_of_ble_eq_true rfl, Nat.le_of_ble_eq_true rfl⟩) hB 54 rfl rfl rfl hl.1 rfl (lv_room (Nat.le_of_ble_eq_true rfl)) dX6_firstBreak_60 ⟨Nat.zero_le _, Nat.zero_le _⟩ (fun H locs hB => ?_)
            refine lv_lconst (v := 0) S.1 S.2.1 dX6_firstBreak_63 (by decide) ?_
            refine W.lcmp S.1 S.2.1 dX6_firstBreak_64 ?_
            refine lv_if_ne (tgt := 71) S.1 S.2.1 dX6_firstBreak_65 (by decide) (fun c_6 => ?_) (fun c_6 => ?_)
            · replace c_6 := (not_congr lc_eq).mp c_6
              replace h := (if_neg c_6).symm.trans h
              refine lv_iinc (v := (x5 + (1 : Int32))) (lv' := [(5, .int (x5 + (1 : Int32))), (6, .int r_2), (0, .ref (ad 54)), (1, .int x1), (2, .int x2), (3, .int x3), (4, .int x4)]) S.1 S.2.1 dX6_firstBreak_71 hl (k := 6) rfl rfl (by decide) rfl (fun ls hl => ?_)
              refine lv_goto (tgt := 28) S.1 S.2.1 dX6_firstBreak_74 (by decide) ?_
              exact ih _ _ _ _ _ _ _ _ _ h hB (lv_sub hl [2, 3, 4, 5, 6, 0] rfl)
            · replace c_6 := lc_eq.mp c_6
              replace h := (if_pos c_6).symm.trans h
              refine lv_iload S.1 S.2.1 dX6_firstBreak_68 (lv_at hl 6 rfl) ?_
              cases h
              exact gRetI S.1 S.2.1 hr hlk hB dX6_firstBreak_70
  refine lv_aload_n S.1 S.2.1 dX6_firstBreak_0 rfl (lv_at hl 0 rfl) ?_
  refine tg_54_0 S hK hB (S.2.2.2.2 _ (List.mem_cons_of_mem _ wf_X6_20)) dX6_firstBreak_1 ?_
  refine tgN_13_6 S hK hB (nF hKS 12 rfl) dX6_firstBreak_4 ?_
  refine lv_iload_n S.1 S.2.1 dX6_firstBreak_7 rfl (lv_at hl 1 rfl) ?_
  refine lg_26 (r := (getI 1200 (σ.2.2.1 27) p0)) S hK cKSc hKS hA hB rfl (cwX6_34 S.2.2.2.2 (rm := { frames := 0, cells := 0, slots := 0, locals := 0 }) rfl rfl ⟨Nat.le_of_ble_eq_true rfl, Nat.le_of_ble_eq_true rfl⟩) hl.1 (lv_room (Nat.le_of_ble_eq_true rfl)) dX6_firstBreak_8 ⟨Nat.zero_le _, Nat.zero_le _⟩ (fun H locs hB => ?_)
  refine lv_istore_n (lv' := [(3, .int (getI 1200 (σ.2.2.1 27) p0)), (0, .ref (ad 54)), (1, .int p0), (2, .int p1)]) S.1 S.2.1 dX6_firstBreak_11 rfl hl (by decide) rfl (fun ls hl => ?_)
  refine lv_aload_n S.1 S.2.1 dX6_firstBreak_12 rfl (lv_at hl 1 rfl) ?_
  refine tg_54_0 S hK hB (S.2.2.2.2 _ (List.mem_cons_of_mem _ wf_X6_20)) dX6_firstBreak_13 ?_
  refine tgN_13_5 S hK hB (nF hKS 11 rfl) dX6_firstBreak_16 ?_
  refine lv_iload_n S.1 S.2.1 dX6_firstBreak_19 rfl (lv_at hl 2 rfl) ?_
  refine lg_24 (r := (getI 1200 (σ.2.2.1 25) p0)) S hK cKSc hKS hA hB rfl (cwX6_34 S.2.2.2.2 (rm := { frames := 0, cells := 0, slots := 0, locals := 0 }) rfl rfl ⟨Nat.le_of_ble_eq_true rfl, Nat.le_of_ble_eq_true rfl⟩) hl.1 (lv_room (Nat.le_of_ble_eq_true rfl)) dX6_firstBreak_20 ⟨Nat.zero_le _, Nat.zero_le _⟩ (fun H locs hB => ?_)
  refine lv_istore (lv' := [(4, .int (getI 1200 (σ.2.2.1 25) p0)), (3, .int (getI 1200 (σ.2.2.1 27) p0)), (0, .ref (ad 54)), (1, .int p0), (2, .int p1)]) S.1 S.2.1 dX6_firstBreak_23 hl (by decide) rfl (fun ls hl => ?_)
  refine lv_iconst (v := (0 : Int32)) S.1 S.2.1 dX6_firstBreak_25 (by decide) ?_
  refine lv_istore (lv' := [(5, .int (0 : Int32)), (4, .int (getI 1200 (σ.2.2.1 25) p0)), (3, .int (getI 1200 (σ.2.2.1 27) p0)), (0, .ref (ad 54)), (1, .int p0), (2, .int p1)]) S.1 S.2.1 dX6_firstBreak_26 hl (by decide) rfl (fun ls hl => ?_)
  exact P28  L _ _ _ _ _ _ _ _ _ h hB (lv_sub hl [3, 4, 5, 2, 1, 0] rfl)
def FX6_always (L : Nat) (p0 : Int32) (p1 : Int32) (σ : CS) : Option (Int32 × CS) :=
  b2 (FX6_isEndless p0 σ) fun r_1 σ_1 =>
  if r_1 = 0 then
    b2 (FX6_firstBreak L p0 p1 σ_1) fun r_3 σ_3 =>
    if r_3 = (-1 : Int32) then
      some ((1 : Int32), σ_3)
    else
      some ((0 : Int32), σ_3)
  else
    b2 (FX6_first p0 p1 σ_1) fun r_5 σ_5 =>
    if r_5 = (0 : Int64) then
      some ((0 : Int32), σ_5)
    else
      if p1 = 0 then
        some ((1 : Int32), σ_5)
      else
        if (getT 1200 (σ_5.2.2.2.2 2) p0 (p1 - (1 : Int32))) = (0 : Int64) then
          some ((0 : Int32), σ_5)
        else
          some ((1 : Int32), σ_5)
abbrev rmX6_always : Room := { frames := 3, cells := 0, slots := 0, locals := 71 }
set_option maxRecDepth 100000 in
set_option maxHeartbeats 4000000 in
theorem kX6_always {l : Launch} {D : va_G} {cI cJ cQ : ClassId} {ad : Nat → Nat} {ra : Nat → Nat → Nat} {adK adV tK : Nat → Nat} {L : Nat} {p0 : Int32} {p1 : Int32} {σ σ' : CS} {r : Int32} (h : FX6_always L p0 p1 σ = some (r, σ')) : gMet l yX6_always qX6_always rmX6_always 0 0 D vwCl [(cI, .int), (cJ, .long), (cQ, .array .long)] (cKS adK adV tK) [.ref (ad 54), .int p0, .int p1] (CW cI cJ cQ ad ra σ) (CW cI cJ cQ ad ra σ') (some (.int r)) := by
  refine gMet.of (cc := cX6_always) (maxL := 3) (ret := (some .boolean)) (by decide) rfl (Nat.le_of_ble_eq_true rfl) ?_
  intro p e s m args below meth c S hr hlk hnm hK hKS hA hB ls hl
  have hl : lv_has ls 3 [(0, .ref (ad 54)), (1, .int p0), (2, .int p1)] := hl
  replace S : CallFix p m c cX6_always 3 s args (_ :: wsL_law) RX6 := S
  rw [FX6_always] at h
  refine lv_aload_n S.1 S.2.1 dX6_always_0 rfl (lv_at hl 0 rfl) ?_
  refine lv_iload_n S.1 S.2.1 dX6_always_1 rfl (lv_at hl 1 rfl) ?_
  obtain ⟨r_1, σ_1, e_1, h⟩ := b2s h
  refine cCallI S hK cKSc hKS hA (kX6_isEndless e_1) (cwX6_88 S.2.2.2.2 (rm := rmX6_isEndless) rfl rfl ⟨Nat.le_of_ble_eq_true rfl, Nat.le_of_ble_eq_true rfl⟩) hB 54 rfl rfl rfl hl.1 rfl (lv_room (Nat.le_of_ble_eq_true rfl)) dX6_always_2 ⟨Nat.zero_le _, Nat.zero_le _⟩ (fun H locs hB => ?_)
  refine lv_if_eq (tgt := 45) S.1 S.2.1 dX6_always_5 (by decide) (fun c_2 => ?_) (fun c_2 => ?_)
  · replace h := (if_pos c_2).symm.trans h
    refine lv_aload_n S.1 S.2.1 dX6_always_45 rfl (lv_at hl 0 rfl) ?_
    refine lv_iload_n S.1 S.2.1 dX6_always_46 rfl (lv_at hl 1 rfl) ?_
    refine lv_iload_n S.1 S.2.1 dX6_always_47 rfl (lv_at hl 2 rfl) ?_
    obtain ⟨r_3, σ_3, e_3, h⟩ := b2s h
    refine cCallI S hK cKSc hKS hA (kX6_firstBreak e_3) (cwX6_98 S.2.2.2.2 (rm := rmX6_firstBreak) rfl rfl ⟨Nat.le_of_ble_eq_true rfl, Nat.le_of_ble_eq_true rfl⟩) hB 54 rfl rfl rfl hl.1 rfl (lv_room (Nat.le_of_ble_eq_true rfl)) dX6_always_48 ⟨Nat.zero_le _, Nat.zero_le _⟩ (fun H locs hB => ?_)
    refine lv_iconst (v := (-1 : Int32)) S.1 S.2.1 dX6_always_51 (by decide) ?_
    refine lv_icmp_ne (tgt := 59) S.1 S.2.1 dX6_always_52 (by decide) (fun c_4 => ?_) (fun c_4 => ?_)
    · replace h := (if_neg c_4).symm.trans h
      refine lv_iconst (v := (0 : Int32)) S.1 S.2.1 dX6_always_59 (by decide) ?_
      cases h
      exact gRetZ S.1 S.2.1 hr hlk hB rfl dX6_always_60
    · replace h := (if_pos c_4).symm.trans h
      refine lv_iconst (v := (1 : Int32)) S.1 S.2.1 dX6_always_55 (by decide) ?_
      refine lv_goto (tgt := 60) S.1 S.2.1 dX6_always_56 (by decide) ?_
      cases h
      exact gRetZ S.1 S.2.1 hr hlk hB rfl dX6_always_60
  · replace h := (if_neg c_2).symm.trans h
    refine lv_aload_n S.1 S.2.1 dX6_always_8 rfl (lv_at hl 0 rfl) ?_
    refine lv_iload_n S.1 S.2.1 dX6_always_9 rfl (lv_at hl 1 rfl) ?_
    refine lv_iload_n S.1 S.2.1 dX6_always_10 rfl (lv_at hl 2 rfl) ?_
    obtain ⟨r_5, σ_5, e_5, h⟩ := b2s h
    refine cCallL S hK cKSc hKS hA (kX6_first e_5) (cwX6_64 S.2.2.2.2 (rm := rmX6_first) rfl rfl ⟨Nat.le_of_ble_eq_true rfl, Nat.le_of_ble_eq_true rfl⟩) hB 54 rfl rfl rfl hl.1 rfl (lv_room (Nat.le_of_ble_eq_true rfl)) dX6_always_11 ⟨Nat.zero_le _, Nat.zero_le _⟩ (fun H locs hB => ?_)
    refine lv_lconst (v := 0) S.1 S.2.1 dX6_always_14 (by decide) ?_
    refine W.lcmp S.1 S.2.1 dX6_always_15 ?_
    refine lv_if_eq (tgt := 43) S.1 S.2.1 dX6_always_16 (by decide) (fun c_6 => ?_) (fun c_6 => ?_)
    · replace c_6 := lc_eq.mp c_6
      replace h := (if_pos c_6).symm.trans h
      refine lv_iconst (v := (0 : Int32)) S.1 S.2.1 dX6_always_43 (by decide) ?_
      cases h
      exact gRetZ S.1 S.2.1 hr hlk hB rfl dX6_always_44
    · replace c_6 := (not_congr lc_eq).mp c_6
      replace h := (if_neg c_6).symm.trans h
      refine lv_iload_n S.1 S.2.1 dX6_always_19 rfl (lv_at hl 2 rfl) ?_
      refine lv_if_eq (tgt := 39) S.1 S.2.1 dX6_always_20 (by decide) (fun c_7 => ?_) (fun c_7 => ?_)
      · replace h := (if_pos c_7).symm.trans h
        refine lv_iconst (v := (1 : Int32)) S.1 S.2.1 dX6_always_39 (by decide) ?_
        refine lv_goto (tgt := 44) S.1 S.2.1 dX6_always_40 (by decide) ?_
        cases h
        exact gRetZ S.1 S.2.1 hr hlk hB rfl dX6_always_44
      · replace h := (if_neg c_7).symm.trans h
        refine lv_aload_n S.1 S.2.1 dX6_always_23 rfl (lv_at hl 0 rfl) ?_
        refine tg_54_2 S hK hB (S.2.2.2.2 _ (List.mem_cons_of_mem _ wf_X6_14)) dX6_always_24 ?_
        refine lv_iload_n S.1 S.2.1 dX6_always_27 rfl (lv_at hl 1 rfl) ?_
        refine lv_iload_n S.1 S.2.1 dX6_always_28 rfl (lv_at hl 2 rfl) ?_
        refine lv_iconst (v := (1 : Int32)) S.1 S.2.1 dX6_always_29 (by decide) ?_
        refine lv_isub S.1 S.2.1 dX6_always_30 ?_
        refine lg_55 (r := (getT 1200 (σ_5.2.2.2.2 2) p0 (p1 - (1 : Int32)))) S hK cKSc hKS hA hB rfl (cwX6_59 S.2.2.2.2 (rm := { frames := 0, cells := 0, slots := 0, locals := 0 }) rfl rfl ⟨Nat.le_of_ble_eq_true rfl, Nat.le_of_ble_eq_true rfl⟩) hl.1 (lv_room (Nat.le_of_ble_eq_true rfl)) dX6_always_31 ⟨Nat.zero_le _, Nat.zero_le _⟩ (fun H locs hB => ?_)
        refine lv_lconst (v := 0) S.1 S.2.1 dX6_always_34 (by decide) ?_
        refine W.lcmp S.1 S.2.1 dX6_always_35 ?_
        refine lv_if_eq (tgt := 43) S.1 S.2.1 dX6_always_36 (by decide) (fun c_8 => ?_) (fun c_8 => ?_)
        · replace c_8 := lc_eq.mp c_8
          replace h := (if_pos c_8).symm.trans h
          refine lv_iconst (v := (0 : Int32)) S.1 S.2.1 dX6_always_43 (by decide) ?_
          cases h
          exact gRetZ S.1 S.2.1 hr hlk hB rfl dX6_always_44
        · replace c_8 := (not_congr lc_eq).mp c_8
          replace h := (if_neg c_8).symm.trans h
          refine lv_iconst (v := (1 : Int32)) S.1 S.2.1 dX6_always_39 (by decide) ?_
          refine lv_goto (tgt := 44) S.1 S.2.1 dX6_always_40 (by decide) ?_
          cases h
          exact gRetZ S.1 S.2.1 hr hlk hB rfl dX6_always_44
def FX6_since_122 (L : Nat) (k80 : Int32 → Int32 → Int32 → Int32 → Int32 → CS → Option (Int32 × CS)) (x1 : Int32) (x2 : Int32) (x3 : Int32) (x4 : Int32) (x5 : Int32) (σ1 : CS) : Option (Int32 × CS) :=
    b2 (FX6_first x1 x5 σ1) fun r_8 σ_8 =>
    if r_8 = (0 : Int64) then
      some ((0 : Int32), σ_8)
    else
      k80 x1 x2 x3 x4 (x5 + (-1 : Int32)) σ_8
def FX6_since_80 (L : Nat)  : Nat → Int32 → Int32 → Int32 → Int32 → Int32 → CS → Option (Int32 × CS)
  | 0, _, _, _, _, _, _ => none
  | n+1, x1, x2, x3, x4, x5, σ1 =>
    if x5 < 0 then
      some ((0 : Int32), σ1)
    else
      b2 (FX6_age x2 x5 σ1) fun r_4 σ_4 =>
      if x3 < r_4 then
        some ((0 : Int32), σ_4)
      else
        b2 (FX6_age x2 x5 σ_4) fun r_6 σ_6 =>
        if r_6 < x4 then
          FX6_since_122 L (FX6_since_80 L n) x1 x2 x3 x4 x5 σ_6
        else
          b2 (FX6_second x1 x5 σ_6) fun r_10 σ_10 =>
          if r_10 = (0 : Int64) then
            FX6_since_122 L (FX6_since_80 L n) x1 x2 x3 x4 x5 σ_10
          else
            some ((1 : Int32), σ_10)
def FX6_since (L : Nat) (p0 : Int32) (p1 : Int32) (σ : CS) : Option (Int32 × CS) :=
  b2 (FX6_isEndless p0 σ) fun r_1 σ_1 =>
  if r_1 = 0 then
    FX6_since_80 L L p0 p1 (getI 1200 (σ_1.2.2.1 27) p0) (getI 1200 (σ_1.2.2.1 25) p0) p1 σ_1
  else
    b2 (FX6_second p0 p1 σ_1) fun r_12 σ_12 =>
    if r_12 = (0 : Int64) then
      b2 (FX6_first p0 p1 σ_12) fun r_14 σ_14 =>
      if r_14 = (0 : Int64) then
        some ((0 : Int32), σ_14)
      else
        if (getT 1200 (σ_14.2.2.2.2 2) p0 (p1 - (1 : Int32))) = (0 : Int64) then
          some ((0 : Int32), σ_14)
        else
          some ((1 : Int32), σ_14)
    else
      some ((1 : Int32), σ_12)
abbrev rmX6_since : Room := { frames := 2, cells := 0, slots := 0, locals := 45 }
set_option maxRecDepth 100000 in
set_option maxHeartbeats 4000000 in
theorem kX6_since {l : Launch} {D : va_G} {cI cJ cQ : ClassId} {ad : Nat → Nat} {ra : Nat → Nat → Nat} {adK adV tK : Nat → Nat} {L : Nat} {p0 : Int32} {p1 : Int32} {σ σ' : CS} {r : Int32} (h : FX6_since L p0 p1 σ = some (r, σ')) : gMet l yX6_since qX6_since rmX6_since 0 0 D vwCl [(cI, .int), (cJ, .long), (cQ, .array .long)] (cKS adK adV tK) [.ref (ad 54), .int p0, .int p1] (CW cI cJ cQ ad ra σ) (CW cI cJ cQ ad ra σ') (some (.int r)) := by
  refine gMet.of (cc := cX6_since) (maxL := 6) (ret := (some .boolean)) (by decide) rfl (Nat.le_of_ble_eq_true rfl) ?_
  intro p e s m args below meth c S hr hlk hnm hK hKS hA hB ls hl
  have hl : lv_has ls 6 [(0, .ref (ad 54)), (1, .int p0), (2, .int p1)] := hl
  replace S : CallFix p m c cX6_since 6 s args (_ :: wsL_law) RX6 := S
  rw [FX6_since] at h
  have P122 : ∀ (k80 : Int32 → Int32 → Int32 → Int32 → Int32 → CS → Option (Int32 × CS)) (hk80 : ∀ (x1 : Int32) (x2 : Int32) (x3 : Int32) (x4 : Int32) (x5 : Int32) (σ1 : CS) (H : Heap) (locs : List Loc) (ls : Array Slot), k80 x1 x2 x3 x4 x5 σ1 = some (r, σ') → gB D vwCl (va_A (CW cI cJ cQ ad ra σ) s.heap.size) s.heap (CW cI cJ cQ ad ra σ1) [] H locs → lv_has ls 6 [(0, .ref (ad 54)), (1, .int x1), (2, .int x2), (3, .int x3), (4, .int x4), (5, .int x5)] → W p l e rmX6_since s m args below meth c H locs 0 0 (MQ below (gQ D vwCl (CW cI cJ cQ ad ra σ) (CW cI cJ cQ ad ra σ') (some (.int r)) s.heap.size) args s 0 0 (va_A (CW cI cJ cQ ad ra σ) s.heap.size)) (F0 m 80 ls [])), ∀ (x1 : Int32) (x2 : Int32) (x3 : Int32) (x4 : Int32) (x5 : Int32) (σ1 : CS) (H : Heap) (locs : List Loc) (ls : Array Slot), FX6_since_122 L k80 x1 x2 x3 x4 x5 σ1 = some (r, σ') → gB D vwCl (va_A (CW cI cJ cQ ad ra σ) s.heap.size) s.heap (CW cI cJ cQ ad ra σ1) [] H locs → lv_has ls 6 [(0, .ref (ad 54)), (1, .int x1), (2, .int x2), (3, .int x3), (4, .int x4), (5, .int x5)] → W p l e rmX6_since s m args below meth c H locs 0 0 (MQ below (gQ D vwCl (CW cI cJ cQ ad ra σ) (CW cI cJ cQ ad ra σ') (some (.int r)) s.heap.size) args s 0 0 (va_A (CW cI cJ cQ ad ra σ) s.heap.size)) (F0 m 122 ls []) := by
    intro k80 hk80 x1 x2 x3 x4 x5 σ1 H locs ls h hB hl
    rw [FX6_since_122] at h
    refine lv_aload_n S.1 S.2.1 dX6_since_122 rfl (lv_at hl 0 rfl) ?_
    refine lv_iload_n S.1 S.2.1 dX6_since_123 rfl (lv_at hl 1 rfl) ?_
    refine lv_iload S.1 S.2.1 dX6_since_124 (lv_at hl 5 rfl) ?_
    obtain ⟨r_8, σ_8, e_8, h⟩ := b2s h
    refine cCallL S hK cKSc hKS hA (kX6_first e_8) (cwX6_64 S.2.2.2.2 (rm := rmX6_first) rfl rfl ⟨Nat.le_of_ble_eq_true rfl, Nat.le_of_ble_eq_true rfl⟩) hB 54 rfl rfl rfl hl.1 rfl (lv_room (Nat.le_of_ble_eq_true rfl)) dX6_since_126 ⟨Nat.zero_le _, Nat.zero_le _⟩ (fun H locs hB => ?_)
    refine lv_lconst (v := 0) S.1 S.2.1 dX6_since_129 (by decide) ?_
    refine W.lcmp S.1 S.2.1 dX6_since_130 ?_
    refine lv_if_ne (tgt := 136) S.1 S.2.1 dX6_since_131 (by decide) (fun c_9 => ?_) (fun c_9 => ?_)
    · replace c_9 := (not_congr lc_eq).mp c_9
      replace h := (if_neg c_9).symm.trans h
      refine lv_iinc (v := (x5 + (-1 : Int32))) (lv' := [(5, .int (x5 + (-1 : Int32))), (0, .ref (ad 54)), (1, .int x1), (2, .int x2), (3, .int x3), (4, .int x4)]) S.1 S.2.1 dX6_since_136 hl (k := 5) rfl rfl (by decide) rfl (fun ls hl => ?_)
      refine lv_goto (tgt := 80) S.1 S.2.1 dX6_since_139 (by decide) ?_
      exact hk80 _ _ _ _ _ _ _ _ _ h hB (lv_sub hl [1, 2, 3, 4, 5, 0] rfl)
    · replace c_9 := lc_eq.mp c_9
      replace h := (if_pos c_9).symm.trans h
      refine lv_iconst (v := (0 : Int32)) S.1 S.2.1 dX6_since_134 (by decide) ?_
      cases h
      exact gRetZ S.1 S.2.1 hr hlk hB rfl dX6_since_135
  have P80 : ∀  (n : Nat), ∀ (x1 : Int32) (x2 : Int32) (x3 : Int32) (x4 : Int32) (x5 : Int32) (σ1 : CS) (H : Heap) (locs : List Loc) (ls : Array Slot), FX6_since_80 L n x1 x2 x3 x4 x5 σ1 = some (r, σ') → gB D vwCl (va_A (CW cI cJ cQ ad ra σ) s.heap.size) s.heap (CW cI cJ cQ ad ra σ1) [] H locs → lv_has ls 6 [(0, .ref (ad 54)), (1, .int x1), (2, .int x2), (3, .int x3), (4, .int x4), (5, .int x5)] → W p l e rmX6_since s m args below meth c H locs 0 0 (MQ below (gQ D vwCl (CW cI cJ cQ ad ra σ) (CW cI cJ cQ ad ra σ') (some (.int r)) s.heap.size) args s 0 0 (va_A (CW cI cJ cQ ad ra σ) s.heap.size)) (F0 m 80 ls []) := by
    intro n
    induction n with
    | zero => intro x1 x2 x3 x4 x5 σ1 H locs ls h; simp only [FX6_since_80] at h; cases h
    | succ n ih =>
      intro x1 x2 x3 x4 x5 σ1 H locs ls h hB hl
      rw [FX6_since_80] at h
      refine lv_iload S.1 S.2.1 dX6_since_80 (lv_at hl 5 rfl) ?_
      refine lv_if_lt (tgt := 142) S.1 S.2.1 dX6_since_82 (by decide) (fun c_3 => ?_) (fun c_3 => ?_)
      · replace h := (if_pos c_3).symm.trans h
        refine lv_iconst (v := (0 : Int32)) S.1 S.2.1 dX6_since_142 (by decide) ?_
        cases h
        exact gRetZ S.1 S.2.1 hr hlk hB rfl dX6_since_143
      · replace h := (if_neg c_3).symm.trans h
        refine lv_aload_n S.1 S.2.1 dX6_since_85 rfl (lv_at hl 0 rfl) ?_
        refine lv_iload_n S.1 S.2.1 dX6_since_86 rfl (lv_at hl 2 rfl) ?_
        refine lv_iload S.1 S.2.1 dX6_since_87 (lv_at hl 5 rfl) ?_
        obtain ⟨r_4, σ_4, e_4, h⟩ := b2s h
        refine cCallI S hK cKSc hKS hA (kX6_age e_4) (cwX6_94 S.2.2.2.2 (rm := rmX6_age) rfl rfl ⟨Nat.le_of_ble_eq_true rfl, Nat.le_of_ble_eq_true rfl⟩) hB 54 rfl rfl rfl hl.1 rfl (lv_room (Nat.le_of_ble_eq_true rfl)) dX6_since_89 ⟨Nat.zero_le _, Nat.zero_le _⟩ (fun H locs hB => ?_)
        refine lv_iload_n S.1 S.2.1 dX6_since_92 rfl (lv_at hl 3 rfl) ?_
        refine lv_icmp_gt (tgt := 142) S.1 S.2.1 dX6_since_93 (by decide) (fun c_5 => ?_) (fun c_5 => ?_)
        · replace h := (if_pos c_5).symm.trans h
          refine lv_iconst (v := (0 : Int32)) S.1 S.2.1 dX6_since_142 (by decide) ?_
          cases h
          exact gRetZ S.1 S.2.1 hr hlk hB rfl dX6_since_143
        · replace h := (if_neg c_5).symm.trans h
          refine lv_aload_n S.1 S.2.1 dX6_since_96 rfl (lv_at hl 0 rfl) ?_
          refine lv_iload_n S.1 S.2.1 dX6_since_97 rfl (lv_at hl 2 rfl) ?_
          refine lv_iload S.1 S.2.1 dX6_since_98 (lv_at hl 5 rfl) ?_
          obtain ⟨r_6, σ_6, e_6, h⟩ := b2s h
          refine cCallI S hK cKSc hKS hA (kX6_age e_6) (cwX6_94 S.2.2.2.2 (rm := rmX6_age) rfl rfl ⟨Nat.le_of_ble_eq_true rfl, Nat.le_of_ble_eq_true rfl⟩) hB 54 rfl rfl rfl hl.1 rfl (lv_room (Nat.le_of_ble_eq_true rfl)) dX6_since_100 ⟨Nat.zero_le _, Nat.zero_le _⟩ (fun H locs hB => ?_)
          refine lv_iload S.1 S.2.1 dX6_since_103 (lv_at hl 4 rfl) ?_
          refine lv_icmp_lt (tgt := 122) S.1 S.2.1 dX6_since_105 (by decide) (fun c_7 => ?_) (fun c_7 => ?_)
          · replace h := (if_pos c_7).symm.trans h
            exact P122 (FX6_since_80 L n) ih _ _ _ _ _ _ _ _ _ h hB hl
          · replace h := (if_neg c_7).symm.trans h
            refine lv_aload_n S.1 S.2.1 dX6_since_108 rfl (lv_at hl 0 rfl) ?_
            refine lv_iload_n S.1 S.2.1 dX6_since_109 rfl (lv_at hl 1 rfl) ?_
            refine lv_iload S.1 S.2.1 dX6_since_110 (lv_at hl 5 rfl) ?_
            obtain ⟨r_10, σ_10, e_10, h⟩ := b2s h
            refine cCallL S hK cKSc hKS hA (kX6_second e_10) (cwX6_67 S.2.2.2.2 (rm := rmX6_second) rfl rfl ⟨Nat.le_of_ble_eq_true rfl, Nat.le_of_ble_eq_true rfl⟩) hB 54 rfl rfl rfl hl.1 rfl (lv_room (Nat.le_of_ble_eq_true rfl)) dX6_since_112 ⟨Nat.zero_le _, Nat.zero_le _⟩ (fun H locs hB => ?_)
            refine lv_lconst (v := 0) S.1 S.2.1 dX6_since_115 (by decide) ?_
            refine W.lcmp S.1 S.2.1 dX6_since_116 ?_
            refine lv_if_eq (tgt := 122) S.1 S.2.1 dX6_since_117 (by decide) (fun c_11 => ?_) (fun c_11 => ?_)
            · replace c_11 := lc_eq.mp c_11
              replace h := (if_pos c_11).symm.trans h
              exact P122 (FX6_since_80 L n) ih _ _ _ _ _ _ _ _ _ h hB hl
            · replace c_11 := (not_congr lc_eq).mp c_11
              replace h := (if_neg c_11).symm.trans h
              refine lv_iconst (v := (1 : Int32)) S.1 S.2.1 dX6_since_120 (by decide) ?_
              cases h
              exact gRetZ S.1 S.2.1 hr hlk hB rfl dX6_since_121
  refine lv_aload_n S.1 S.2.1 dX6_since_0 rfl (lv_at hl 0 rfl) ?_
  refine lv_iload_n S.1 S.2.1 dX6_since_1 rfl (lv_at hl 1 rfl) ?_
  obtain ⟨r_1, σ_1, e_1, h⟩ := b2s h
  refine cCallI S hK cKSc hKS hA (kX6_isEndless e_1) (cwX6_88 S.2.2.2.2 (rm := rmX6_isEndless) rfl rfl ⟨Nat.le_of_ble_eq_true rfl, Nat.le_of_ble_eq_true rfl⟩) hB 54 rfl rfl rfl hl.1 rfl (lv_room (Nat.le_of_ble_eq_true rfl)) dX6_since_2 ⟨Nat.zero_le _, Nat.zero_le _⟩ (fun H locs hB => ?_)
  refine lv_if_eq (tgt := 52) S.1 S.2.1 dX6_since_5 (by decide) (fun c_2 => ?_) (fun c_2 => ?_)
  · replace h := (if_pos c_2).symm.trans h
    refine lv_aload_n S.1 S.2.1 dX6_since_52 rfl (lv_at hl 0 rfl) ?_
    refine tg_54_0 S hK hB (S.2.2.2.2 _ (List.mem_cons_of_mem _ wf_X6_20)) dX6_since_53 ?_
    refine tgN_13_6 S hK hB (nF hKS 12 rfl) dX6_since_56 ?_
    refine lv_iload_n S.1 S.2.1 dX6_since_59 rfl (lv_at hl 1 rfl) ?_
    refine lg_26 (r := (getI 1200 (σ_1.2.2.1 27) p0)) S hK cKSc hKS hA hB rfl (cwX6_34 S.2.2.2.2 (rm := { frames := 0, cells := 0, slots := 0, locals := 0 }) rfl rfl ⟨Nat.le_of_ble_eq_true rfl, Nat.le_of_ble_eq_true rfl⟩) hl.1 (lv_room (Nat.le_of_ble_eq_true rfl)) dX6_since_60 ⟨Nat.zero_le _, Nat.zero_le _⟩ (fun H locs hB => ?_)
    refine lv_istore_n (lv' := [(3, .int (getI 1200 (σ_1.2.2.1 27) p0)), (0, .ref (ad 54)), (1, .int p0), (2, .int p1)]) S.1 S.2.1 dX6_since_63 rfl hl (by decide) rfl (fun ls hl => ?_)
    refine lv_aload_n S.1 S.2.1 dX6_since_64 rfl (lv_at hl 1 rfl) ?_
    refine tg_54_0 S hK hB (S.2.2.2.2 _ (List.mem_cons_of_mem _ wf_X6_20)) dX6_since_65 ?_
    refine tgN_13_5 S hK hB (nF hKS 11 rfl) dX6_since_68 ?_
    refine lv_iload_n S.1 S.2.1 dX6_since_71 rfl (lv_at hl 2 rfl) ?_
    refine lg_24 (r := (getI 1200 (σ_1.2.2.1 25) p0)) S hK cKSc hKS hA hB rfl (cwX6_34 S.2.2.2.2 (rm := { frames := 0, cells := 0, slots := 0, locals := 0 }) rfl rfl ⟨Nat.le_of_ble_eq_true rfl, Nat.le_of_ble_eq_true rfl⟩) hl.1 (lv_room (Nat.le_of_ble_eq_true rfl)) dX6_since_72 ⟨Nat.zero_le _, Nat.zero_le _⟩ (fun H locs hB => ?_)
    refine lv_istore (lv' := [(4, .int (getI 1200 (σ_1.2.2.1 25) p0)), (3, .int (getI 1200 (σ_1.2.2.1 27) p0)), (0, .ref (ad 54)), (1, .int p0), (2, .int p1)]) S.1 S.2.1 dX6_since_75 hl (by decide) rfl (fun ls hl => ?_)
    refine lv_iload_n S.1 S.2.1 dX6_since_77 rfl (lv_at hl 4 rfl) ?_
    refine lv_istore (lv' := [(5, .int p1), (4, .int (getI 1200 (σ_1.2.2.1 25) p0)), (3, .int (getI 1200 (σ_1.2.2.1 27) p0)), (0, .ref (ad 54)), (1, .int p0), (2, .int p1)]) S.1 S.2.1 dX6_since_78 hl (by decide) rfl (fun ls hl => ?_)
    exact P80  L _ _ _ _ _ _ _ _ _ h hB (lv_sub hl [3, 4, 5, 2, 1, 0] rfl)
  · replace h := (if_neg c_2).symm.trans h
    refine lv_aload_n S.1 S.2.1 dX6_since_8 rfl (lv_at hl 0 rfl) ?_
    refine lv_iload_n S.1 S.2.1 dX6_since_9 rfl (lv_at hl 1 rfl) ?_
    refine lv_iload_n S.1 S.2.1 dX6_since_10 rfl (lv_at hl 2 rfl) ?_
    obtain ⟨r_12, σ_12, e_12, h⟩ := b2s h
    refine cCallL S hK cKSc hKS hA (kX6_second e_12) (cwX6_67 S.2.2.2.2 (rm := rmX6_second) rfl rfl ⟨Nat.le_of_ble_eq_true rfl, Nat.le_of_ble_eq_true rfl⟩) hB 54 rfl rfl rfl hl.1 rfl (lv_room (Nat.le_of_ble_eq_true rfl)) dX6_since_11 ⟨Nat.zero_le _, Nat.zero_le _⟩ (fun H locs hB => ?_)
    refine lv_lconst (v := 0) S.1 S.2.1 dX6_since_14 (by decide) ?_
    refine W.lcmp S.1 S.2.1 dX6_since_15 ?_
    refine lv_if_ne (tgt := 46) S.1 S.2.1 dX6_since_16 (by decide) (fun c_13 => ?_) (fun c_13 => ?_)
    · replace c_13 := (not_congr lc_eq).mp c_13
      replace h := (if_neg c_13).symm.trans h
      refine lv_iconst (v := (1 : Int32)) S.1 S.2.1 dX6_since_46 (by decide) ?_
      refine lv_goto (tgt := 51) S.1 S.2.1 dX6_since_47 (by decide) ?_
      cases h
      exact gRetZ S.1 S.2.1 hr hlk hB rfl dX6_since_51
    · replace c_13 := lc_eq.mp c_13
      replace h := (if_pos c_13).symm.trans h
      refine lv_aload_n S.1 S.2.1 dX6_since_19 rfl (lv_at hl 0 rfl) ?_
      refine lv_iload_n S.1 S.2.1 dX6_since_20 rfl (lv_at hl 1 rfl) ?_
      refine lv_iload_n S.1 S.2.1 dX6_since_21 rfl (lv_at hl 2 rfl) ?_
      obtain ⟨r_14, σ_14, e_14, h⟩ := b2s h
      refine cCallL S hK cKSc hKS hA (kX6_first e_14) (cwX6_64 S.2.2.2.2 (rm := rmX6_first) rfl rfl ⟨Nat.le_of_ble_eq_true rfl, Nat.le_of_ble_eq_true rfl⟩) hB 54 rfl rfl rfl hl.1 rfl (lv_room (Nat.le_of_ble_eq_true rfl)) dX6_since_22 ⟨Nat.zero_le _, Nat.zero_le _⟩ (fun H locs hB => ?_)
      refine lv_lconst (v := 0) S.1 S.2.1 dX6_since_25 (by decide) ?_
      refine W.lcmp S.1 S.2.1 dX6_since_26 ?_
      refine lv_if_eq (tgt := 50) S.1 S.2.1 dX6_since_27 (by decide) (fun c_15 => ?_) (fun c_15 => ?_)
      · replace c_15 := lc_eq.mp c_15
        replace h := (if_pos c_15).symm.trans h
        refine lv_iconst (v := (0 : Int32)) S.1 S.2.1 dX6_since_50 (by decide) ?_
        cases h
        exact gRetZ S.1 S.2.1 hr hlk hB rfl dX6_since_51
      · replace c_15 := (not_congr lc_eq).mp c_15
        replace h := (if_neg c_15).symm.trans h
        refine lv_aload_n S.1 S.2.1 dX6_since_30 rfl (lv_at hl 0 rfl) ?_
        refine tg_54_2 S hK hB (S.2.2.2.2 _ (List.mem_cons_of_mem _ wf_X6_14)) dX6_since_31 ?_
        refine lv_iload_n S.1 S.2.1 dX6_since_34 rfl (lv_at hl 1 rfl) ?_
        refine lv_iload_n S.1 S.2.1 dX6_since_35 rfl (lv_at hl 2 rfl) ?_
        refine lv_iconst (v := (1 : Int32)) S.1 S.2.1 dX6_since_36 (by decide) ?_
        refine lv_isub S.1 S.2.1 dX6_since_37 ?_
        refine lg_55 (r := (getT 1200 (σ_14.2.2.2.2 2) p0 (p1 - (1 : Int32)))) S hK cKSc hKS hA hB rfl (cwX6_59 S.2.2.2.2 (rm := { frames := 0, cells := 0, slots := 0, locals := 0 }) rfl rfl ⟨Nat.le_of_ble_eq_true rfl, Nat.le_of_ble_eq_true rfl⟩) hl.1 (lv_room (Nat.le_of_ble_eq_true rfl)) dX6_since_38 ⟨Nat.zero_le _, Nat.zero_le _⟩ (fun H locs hB => ?_)
        refine lv_lconst (v := 0) S.1 S.2.1 dX6_since_41 (by decide) ?_
        refine W.lcmp S.1 S.2.1 dX6_since_42 ?_
        refine lv_if_eq (tgt := 50) S.1 S.2.1 dX6_since_43 (by decide) (fun c_16 => ?_) (fun c_16 => ?_)
        · replace c_16 := lc_eq.mp c_16
          replace h := (if_pos c_16).symm.trans h
          refine lv_iconst (v := (0 : Int32)) S.1 S.2.1 dX6_since_50 (by decide) ?_
          cases h
          exact gRetZ S.1 S.2.1 hr hlk hB rfl dX6_since_51
        · replace c_16 := (not_congr lc_eq).mp c_16
          replace h := (if_neg c_16).symm.trans h
          refine lv_iconst (v := (1 : Int32)) S.1 S.2.1 dX6_since_46 (by decide) ?_
          refine lv_goto (tgt := 51) S.1 S.2.1 dX6_since_47 (by decide) ?_
          cases h
          exact gRetZ S.1 S.2.1 hr hlk hB rfl dX6_since_51
def FX6_ageOfLast (p0 : Int64) (p1 : Int32) (σ : CS) : Option (Int64 × CS) :=
  if p1 = 0 then
    some ((-1 : Int64), σ)
  else
    if ¬ p0 < (0 : Int64) then
      b2 (FX6_age p1 (p1 - (1 : Int32)) σ) fun r_3 σ_3 =>
      some ((p0 + r_3.toInt64), σ_3)
    else
      some ((-1 : Int64), σ)
abbrev rmX6_ageOfLast : Room := { frames := 2, cells := 0, slots := 0, locals := 43 }
set_option maxRecDepth 100000 in
set_option maxHeartbeats 4000000 in
theorem kX6_ageOfLast {l : Launch} {D : va_G} {cI cJ cQ : ClassId} {ad : Nat → Nat} {ra : Nat → Nat → Nat} {adK adV tK : Nat → Nat} {p0 : Int64} {p1 : Int32} {σ σ' : CS} {r : Int64} (h : FX6_ageOfLast p0 p1 σ = some (r, σ')) : gMet l yX6_ageOfLast qX6_ageOfLast rmX6_ageOfLast 0 0 D vwCl [(cI, .int), (cJ, .long), (cQ, .array .long)] (cKS adK adV tK) [.ref (ad 54), .long p0, .int p1] (CW cI cJ cQ ad ra σ) (CW cI cJ cQ ad ra σ') (some (.long r)) := by
  refine gMet.of (cc := cX6_ageOfLast) (maxL := 4) (ret := (some .long)) (by decide) rfl (Nat.le_of_ble_eq_true rfl) ?_
  intro p e s m args below meth c S hr hlk hnm hK hKS hA hB ls hl
  have hl : lv_has ls 4 [(0, .ref (ad 54)), (1, .long p0), (3, .int p1)] := hl
  replace S : CallFix p m c cX6_ageOfLast 4 s args (_ :: wsL_law) RX6 := S
  rw [FX6_ageOfLast] at h
  refine lv_iload_n S.1 S.2.1 dX6_ageOfLast_0 rfl (lv_at hl 2 rfl) ?_
  refine lv_if_eq (tgt := 10) S.1 S.2.1 dX6_ageOfLast_1 (by decide) (fun c_1 => ?_) (fun c_1 => ?_)
  · replace h := (if_pos c_1).symm.trans h
    refine lv_ldc2 (v := (-1)) S.1 S.2.1 S.2.2.2.1 (S.2.2.2.2 _ (List.mem_cons_of_mem _ wk_X6_120)) dX6_ageOfLast_10 ?_
    refine lv_goto (tgt := 27) S.1 S.2.1 dX6_ageOfLast_13 (by decide) ?_
    cases h
    exact gRetL S.1 S.2.1 hr hlk hB dX6_ageOfLast_27
  · replace h := (if_neg c_1).symm.trans h
    refine lv_lload_n S.1 S.2.1 dX6_ageOfLast_4 rfl (lv_at hl 1 rfl) ?_
    refine lv_lconst (v := 0) S.1 S.2.1 dX6_ageOfLast_5 (by decide) ?_
    refine W.lcmp S.1 S.2.1 dX6_ageOfLast_6 ?_
    refine lv_if_ge (tgt := 16) S.1 S.2.1 dX6_ageOfLast_7 (by decide) (fun c_2 => ?_) (fun c_2 => ?_)
    · replace c_2 := lc_ge.mp c_2
      replace h := (if_pos c_2).symm.trans h
      refine lv_lload_n S.1 S.2.1 dX6_ageOfLast_16 rfl (lv_at hl 1 rfl) ?_
      refine lv_aload_n S.1 S.2.1 dX6_ageOfLast_17 rfl (lv_at hl 0 rfl) ?_
      refine lv_iload_n S.1 S.2.1 dX6_ageOfLast_18 rfl (lv_at hl 2 rfl) ?_
      refine lv_iload_n S.1 S.2.1 dX6_ageOfLast_19 rfl (lv_at hl 2 rfl) ?_
      refine lv_iconst (v := (1 : Int32)) S.1 S.2.1 dX6_ageOfLast_20 (by decide) ?_
      refine lv_isub S.1 S.2.1 dX6_ageOfLast_21 ?_
      obtain ⟨r_3, σ_3, e_3, h⟩ := b2s h
      refine cCallI S hK cKSc hKS hA (kX6_age e_3) (cwX6_94 S.2.2.2.2 (rm := rmX6_age) rfl rfl ⟨Nat.le_of_ble_eq_true rfl, Nat.le_of_ble_eq_true rfl⟩) hB 54 rfl rfl rfl hl.1 rfl (lv_room (Nat.le_of_ble_eq_true rfl)) dX6_ageOfLast_22 ⟨Nat.zero_le _, Nat.zero_le _⟩ (fun H locs hB => ?_)
      refine lv_i2l (v := r_3.toInt64) S.1 S.2.1 dX6_ageOfLast_25 rfl ?_
      refine lv_ladd S.1 S.2.1 dX6_ageOfLast_26 ?_
      cases h
      exact gRetL S.1 S.2.1 hr hlk hB dX6_ageOfLast_27
    · replace c_2 := (not_congr lc_ge).mp c_2
      replace h := (if_neg c_2).symm.trans h
      refine lv_ldc2 (v := (-1)) S.1 S.2.1 S.2.2.2.1 (S.2.2.2.2 _ (List.mem_cons_of_mem _ wk_X6_120)) dX6_ageOfLast_10 ?_
      refine lv_goto (tgt := 27) S.1 S.2.1 dX6_ageOfLast_13 (by decide) ?_
      cases h
      exact gRetL S.1 S.2.1 hr hlk hB dX6_ageOfLast_27
def FX6_holds_33 (L : Nat)  (x1 : Int32) (x2 : Int32) (x3 : Int64) (x5 : Int64) (y0 : Int32) (σ1 : CS) : Option (Int32 × CS) :=
    if (getI 1200 (σ1.2.2.1 15) x1) = 5 then
      if x3 = (0 : Int64) then
        some ((1 : Int32), σ1)
      else
        some ((0 : Int32), σ1)
    else if (getI 1200 (σ1.2.2.1 15) x1) = 6 then
      if (y0 ≠ 0 ∧ y0 ≠ 1) then none else
      some (y0, σ1)
    else if (getI 1200 (σ1.2.2.1 15) x1) = 7 then
      if x3 = (0 : Int64) then
        some ((0 : Int32), σ1)
      else
        if y0 = 0 then
          some ((1 : Int32), σ1)
        else
          some ((0 : Int32), σ1)
    else if (getI 1200 (σ1.2.2.1 15) x1) = 8 then
      if x3 = (0 : Int64) then
        if y0 = 0 then
          some ((0 : Int32), σ1)
        else
          some ((1 : Int32), σ1)
      else
        some ((0 : Int32), σ1)
    else if (getI 1200 (σ1.2.2.1 15) x1) = 9 then
      b2 (FX6_once L x1 x2 σ1) fun r_16 σ_16 =>
      if (r_16 ≠ 0 ∧ r_16 ≠ 1) then none else
      some (r_16, σ_16)
    else if (getI 1200 (σ1.2.2.1 15) x1) = 10 then
      b2 (FX6_always L x1 x2 σ1) fun r_19 σ_19 =>
      if (r_19 ≠ 0 ∧ r_19 ≠ 1) then none else
      some (r_19, σ_19)
    else if (getI 1200 (σ1.2.2.1 15) x1) = 11 then
      b2 (FX6_since L x1 x2 σ1) fun r_22 σ_22 =>
      if (r_22 ≠ 0 ∧ r_22 ≠ 1) then none else
      some (r_22, σ_22)
    else if (getI 1200 (σ1.2.2.1 15) x1) = 12 then
      if x3 = (0 : Int64) then
        some ((0 : Int32), σ1)
      else
        if x5 = (0 : Int64) then
          some ((0 : Int32), σ1)
        else
          some ((1 : Int32), σ1)
    else if (getI 1200 (σ1.2.2.1 15) x1) = 13 then
      if x3 = (0 : Int64) then
        if x5 = (0 : Int64) then
          some ((0 : Int32), σ1)
        else
          some ((1 : Int32), σ1)
      else
        some ((1 : Int32), σ1)
    else if (getI 1200 (σ1.2.2.1 15) x1) = 14 then
      if x3 = (0 : Int64) then
        some ((1 : Int32), σ1)
      else
        if x5 = (0 : Int64) then
          some ((0 : Int32), σ1)
        else
          some ((1 : Int32), σ1)
    else if (getI 1200 (σ1.2.2.1 15) x1) = 16 then
      some ((1 : Int32), σ1)
    else if (getI 1200 (σ1.2.2.1 15) x1) = 44 then
      if x3 = x5 then
        some ((1 : Int32), σ1)
      else
        some ((0 : Int32), σ1)
    else if (getI 1200 (σ1.2.2.1 15) x1) = 45 then
      if x3 = x5 then
        some ((0 : Int32), σ1)
      else
        some ((1 : Int32), σ1)
    else if (getI 1200 (σ1.2.2.1 15) x1) = 46 then
      if ¬ x3 < x5 then
        some ((0 : Int32), σ1)
      else
        some ((1 : Int32), σ1)
    else if (getI 1200 (σ1.2.2.1 15) x1) = 47 then
      if ¬ x5 < x3 then
        some ((0 : Int32), σ1)
      else
        some ((1 : Int32), σ1)
    else if (getI 1200 (σ1.2.2.1 15) x1) = 48 then
      if x5 < x3 then
        some ((0 : Int32), σ1)
      else
        some ((1 : Int32), σ1)
    else if (getI 1200 (σ1.2.2.1 15) x1) = 49 then
      if x3 < x5 then
        some ((0 : Int32), σ1)
      else
        some ((1 : Int32), σ1)
    else 
      some ((0 : Int32), σ1)
def FX6_holds (L : Nat) (p0 : Int32) (p1 : Int32) (σ : CS) : Option (Int32 × CS) :=
  b2 (FX6_first p0 p1 σ) fun r_1 σ_1 =>
  b2 (FX6_second p0 p1 σ_1) fun r_2 σ_2 =>
  b2 (FX6_first p0 (p1 - (1 : Int32)) σ_2) fun r_3 σ_3 =>
  if r_3 = (0 : Int64) then
    FX6_holds_33 L p0 p1 r_1 r_2 (0 : Int32) σ_3
  else
    FX6_holds_33 L p0 p1 r_1 r_2 (1 : Int32) σ_3
abbrev rmX6_holds : Room := { frames := 4, cells := 0, slots := 0, locals := 93 }
set_option maxRecDepth 100000 in
set_option maxHeartbeats 4000000 in
theorem kX6_holds {l : Launch} {D : va_G} {cI cJ cQ : ClassId} {ad : Nat → Nat} {ra : Nat → Nat → Nat} {adK adV tK : Nat → Nat} {L : Nat} {p0 : Int32} {p1 : Int32} {σ σ' : CS} {r : Int32} (h : FX6_holds L p0 p1 σ = some (r, σ')) : gMet l yX6_holds qX6_holds rmX6_holds 0 0 D vwCl [(cI, .int), (cJ, .long), (cQ, .array .long)] (cKS adK adV tK) [.ref (ad 54), .int p0, .int p1] (CW cI cJ cQ ad ra σ) (CW cI cJ cQ ad ra σ') (some (.int r)) := by
  refine gMet.of (cc := cX6_holds) (maxL := 8) (ret := (some .boolean)) (by decide) rfl (Nat.le_of_ble_eq_true rfl) ?_
  intro p e s m args below meth c S hr hlk hnm hK hKS hA hB ls hl
  have hl : lv_has ls 8 [(0, .ref (ad 54)), (1, .int p0), (2, .int p1)] := hl
  replace S : CallFix p m c cX6_holds 8 s args (_ :: wsL_law) RX6 := S
  rw [FX6_holds] at h
  have P33 : ∀ (x1 : Int32) (x2 : Int32) (x3 : Int64) (x5 : Int64) (y0 : Int32) (σ1 : CS) (H : Heap) (locs : List Loc) (ls : Array Slot), FX6_holds_33 L x1 x2 x3 x5 y0 σ1 = some (r, σ') → gB D vwCl (va_A (CW cI cJ cQ ad ra σ) s.heap.size) s.heap (CW cI cJ cQ ad ra σ1) [] H locs → lv_has ls 8 [(0, .ref (ad 54)), (1, .int x1), (2, .int x2), (3, .long x3), (5, .long x5)] → W p l e rmX6_holds s m args below meth c H locs 0 0 (MQ below (gQ D vwCl (CW cI cJ cQ ad ra σ) (CW cI cJ cQ ad ra σ') (some (.int r)) s.heap.size) args s 0 0 (va_A (CW cI cJ cQ ad ra σ) s.heap.size)) (F0 m 33 ls [.int y0]) := by
    intro  x1 x2 x3 x5 y0 σ1 H locs ls h hB hl
    rw [FX6_holds_33] at h
    refine lv_istore (lv' := [(7, .int y0), (0, .ref (ad 54)), (1, .int x1), (2, .int x2), (3, .long x3), (5, .long x5)]) S.1 S.2.1 dX6_holds_33 hl (by decide) rfl (fun ls hl => ?_)
    refine lv_aload_n S.1 S.2.1 dX6_holds_35 rfl (lv_at hl 1 rfl) ?_
    refine tg_54_0 S hK hB (S.2.2.2.2 _ (List.mem_cons_of_mem _ wf_X6_20)) dX6_holds_36 ?_
    refine tgN_13_0 S hK hB (nF hKS 5 rfl) dX6_holds_39 ?_
    refine lv_iload_n S.1 S.2.1 dX6_holds_42 rfl (lv_at hl 2 rfl) ?_
    refine lg_14 (r := (getI 1200 (σ1.2.2.1 15) x1)) S hK cKSc hKS hA hB rfl (cwX6_34 S.2.2.2.2 (rm := { frames := 0, cells := 0, slots := 0, locals := 0 }) rfl rfl ⟨Nat.le_of_ble_eq_true rfl, Nat.le_of_ble_eq_true rfl⟩) hl.1 (lv_room (Nat.le_of_ble_eq_true rfl)) dX6_holds_43 ⟨Nat.zero_le _, Nat.zero_le _⟩ (fun H locs hB => ?_)
    by_cases c_5 : (getI 1200 (σ1.2.2.1 15) x1) = 5
    · replace h := (if_pos c_5).symm.trans h
      refine lv_tableIn (off := 196) (tgt := 242) S.1 S.2.1 dX6_holds_46 (by rw [c_5]; decide) (by rw [c_5]; decide) (by rw [c_5]; rfl) (by decide) ?_
      refine lv_lload_n S.1 S.2.1 dX6_holds_242 rfl (lv_at hl 4 rfl) ?_
      refine lv_lconst (v := 0) S.1 S.2.1 dX6_holds_243 (by decide) ?_
      refine W.lcmp S.1 S.2.1 dX6_holds_244 ?_
      refine lv_if_ne (tgt := 252) S.1 S.2.1 dX6_holds_245 (by decide) (fun c_6 => ?_) (fun c_6 => ?_)
      · replace c_6 := (not_congr lc_eq).mp c_6
        replace h := (if_neg c_6).symm.trans h
        refine lv_iconst (v := (0 : Int32)) S.1 S.2.1 dX6_holds_252 (by decide) ?_
        cases h
        exact gRetZ S.1 S.2.1 hr hlk hB rfl dX6_holds_253
      · replace c_6 := lc_eq.mp c_6
        replace h := (if_pos c_6).symm.trans h
        refine lv_iconst (v := (1 : Int32)) S.1 S.2.1 dX6_holds_248 (by decide) ?_
        refine lv_goto (tgt := 253) S.1 S.2.1 dX6_holds_249 (by decide) ?_
        cases h
        exact gRetZ S.1 S.2.1 hr hlk hB rfl dX6_holds_253
    · replace h := (if_neg c_5).symm.trans h
      by_cases c_7 : (getI 1200 (σ1.2.2.1 15) x1) = 6
      · replace h := (if_pos c_7).symm.trans h
        refine lv_tableIn (off := 265) (tgt := 311) S.1 S.2.1 dX6_holds_46 (by rw [c_7]; decide) (by rw [c_7]; decide) (by rw [c_7]; rfl) (by decide) ?_
        refine lv_iload S.1 S.2.1 dX6_holds_311 (lv_at hl 0 rfl) ?_
        obtain ⟨z_8, h⟩ := gd h
        cases h
        exact gRetZ S.1 S.2.1 hr hlk hB (nzB z_8) dX6_holds_313
      · replace h := (if_neg c_7).symm.trans h
        by_cases c_9 : (getI 1200 (σ1.2.2.1 15) x1) = 7
        · replace h := (if_pos c_9).symm.trans h
          refine lv_tableIn (off := 268) (tgt := 314) S.1 S.2.1 dX6_holds_46 (by rw [c_9]; decide) (by rw [c_9]; decide) (by rw [c_9]; rfl) (by decide) ?_
          refine lv_lload_n S.1 S.2.1 dX6_holds_314 rfl (lv_at hl 4 rfl) ?_
          refine lv_lconst (v := 0) S.1 S.2.1 dX6_holds_315 (by decide) ?_
          refine W.lcmp S.1 S.2.1 dX6_holds_316 ?_
          refine lv_if_eq (tgt := 329) S.1 S.2.1 dX6_holds_317 (by decide) (fun c_10 => ?_) (fun c_10 => ?_)
          · replace c_10 := lc_eq.mp c_10
            replace h := (if_pos c_10).symm.trans h
            refine lv_iconst (v := (0 : Int32)) S.1 S.2.1 dX6_holds_329 (by decide) ?_
            cases h
            exact gRetZ S.1 S.2.1 hr hlk hB rfl dX6_holds_330
          · replace c_10 := (not_congr lc_eq).mp c_10
            replace h := (if_neg c_10).symm.trans h
            refine lv_iload S.1 S.2.1 dX6_holds_320 (lv_at hl 0 rfl) ?_
            refine lv_if_ne (tgt := 329) S.1 S.2.1 dX6_holds_322 (by decide) (fun c_11 => ?_) (fun c_11 => ?_)
            · replace h := (if_neg c_11).symm.trans h
              refine lv_iconst (v := (0 : Int32)) S.1 S.2.1 dX6_holds_329 (by decide) ?_
              cases h
              exact gRetZ S.1 S.2.1 hr hlk hB rfl dX6_holds_330
            · replace h := (if_pos c_11).symm.trans h
              refine lv_iconst (v := (1 : Int32)) S.1 S.2.1 dX6_holds_325 (by decide) ?_
              refine lv_goto (tgt := 330) S.1 S.2.1 dX6_holds_326 (by decide) ?_
              cases h
              exact gRetZ S.1 S.2.1 hr hlk hB rfl dX6_holds_330
        · replace h := (if_neg c_9).symm.trans h
          by_cases c_12 : (getI 1200 (σ1.2.2.1 15) x1) = 8
          · replace h := (if_pos c_12).symm.trans h
            refine lv_tableIn (off := 285) (tgt := 331) S.1 S.2.1 dX6_holds_46 (by rw [c_12]; decide) (by rw [c_12]; decide) (by rw [c_12]; rfl) (by decide) ?_
            refine lv_lload_n S.1 S.2.1 dX6_holds_331 rfl (lv_at hl 4 rfl) ?_
            refine lv_lconst (v := 0) S.1 S.2.1 dX6_holds_332 (by decide) ?_
            refine W.lcmp S.1 S.2.1 dX6_holds_333 ?_
            refine lv_if_ne (tgt := 346) S.1 S.2.1 dX6_holds_334 (by decide) (fun c_13 => ?_) (fun c_13 => ?_)
            · replace c_13 := (not_congr lc_eq).mp c_13
              replace h := (if_neg c_13).symm.trans h
              refine lv_iconst (v := (0 : Int32)) S.1 S.2.1 dX6_holds_346 (by decide) ?_
              cases h
              exact gRetZ S.1 S.2.1 hr hlk hB rfl dX6_holds_347
            · replace c_13 := lc_eq.mp c_13
              replace h := (if_pos c_13).symm.trans h
              refine lv_iload S.1 S.2.1 dX6_holds_337 (lv_at hl 0 rfl) ?_
              refine lv_if_eq (tgt := 346) S.1 S.2.1 dX6_holds_339 (by decide) (fun c_14 => ?_) (fun c_14 => ?_)
              · replace h := (if_pos c_14).symm.trans h
                refine lv_iconst (v := (0 : Int32)) S.1 S.2.1 dX6_holds_346 (by decide) ?_
                cases h
                exact gRetZ S.1 S.2.1 hr hlk hB rfl dX6_holds_347
              · replace h := (if_neg c_14).symm.trans h
                refine lv_iconst (v := (1 : Int32)) S.1 S.2.1 dX6_holds_342 (by decide) ?_
                refine lv_goto (tgt := 347) S.1 S.2.1 dX6_holds_343 (by decide) ?_
                cases h
                exact gRetZ S.1 S.2.1 hr hlk hB rfl dX6_holds_347
          · replace h := (if_neg c_12).symm.trans h
            by_cases c_15 : (getI 1200 (σ1.2.2.1 15) x1) = 9
            · replace h := (if_pos c_15).symm.trans h
              refine lv_tableIn (off := 302) (tgt := 348) S.1 S.2.1 dX6_holds_46 (by rw [c_15]; decide) (by rw [c_15]; decide) (by rw [c_15]; rfl) (by decide) ?_
              refine lv_aload_n S.1 S.2.1 dX6_holds_348 rfl (lv_at hl 1 rfl) ?_
              refine lv_iload_n S.1 S.2.1 dX6_holds_349 rfl (lv_at hl 2 rfl) ?_
              refine lv_iload_n S.1 S.2.1 dX6_holds_350 rfl (lv_at hl 3 rfl) ?_
              obtain ⟨r_16, σ_16, e_16, h⟩ := b2s h
              refine cCallI S hK cKSc hKS hA (kX6_once e_16) (cwX6_70 S.2.2.2.2 (rm := rmX6_once) rfl rfl ⟨Nat.le_of_ble_eq_true rfl, Nat.le_of_ble_eq_true rfl⟩) hB 54 rfl rfl rfl hl.1 rfl (lv_room (Nat.le_of_ble_eq_true rfl)) dX6_holds_351 ⟨Nat.zero_le _, Nat.zero_le _⟩ (fun H locs hB => ?_)
              obtain ⟨z_17, h⟩ := gd h
              cases h
              exact gRetZ S.1 S.2.1 hr hlk hB (nzB z_17) dX6_holds_354
            · replace h := (if_neg c_15).symm.trans h
              by_cases c_18 : (getI 1200 (σ1.2.2.1 15) x1) = 10
              · replace h := (if_pos c_18).symm.trans h
                refine lv_tableIn (off := 309) (tgt := 355) S.1 S.2.1 dX6_holds_46 (by rw [c_18]; decide) (by rw [c_18]; decide) (by rw [c_18]; rfl) (by decide) ?_
                refine lv_aload_n S.1 S.2.1 dX6_holds_355 rfl (lv_at hl 1 rfl) ?_
                refine lv_iload_n S.1 S.2.1 dX6_holds_356 rfl (lv_at hl 2 rfl) ?_
                refine lv_iload_n S.1 S.2.1 dX6_holds_357 rfl (lv_at hl 3 rfl) ?_
                obtain ⟨r_19, σ_19, e_19, h⟩ := b2s h
                refine cCallI S hK cKSc hKS hA (kX6_always e_19) (cwX6_73 S.2.2.2.2 (rm := rmX6_always) rfl rfl ⟨Nat.le_of_ble_eq_true rfl, Nat.le_of_ble_eq_true rfl⟩) hB 54 rfl rfl rfl hl.1 rfl (lv_room (Nat.le_of_ble_eq_true rfl)) dX6_holds_358 ⟨Nat.zero_le _, Nat.zero_le _⟩ (fun H locs hB => ?_)
                obtain ⟨z_20, h⟩ := gd h
                cases h
                exact gRetZ S.1 S.2.1 hr hlk hB (nzB z_20) dX6_holds_361
              · replace h := (if_neg c_18).symm.trans h
                by_cases c_21 : (getI 1200 (σ1.2.2.1 15) x1) = 11
                · replace h := (if_pos c_21).symm.trans h
                  refine lv_tableIn (off := 316) (tgt := 362) S.1 S.2.1 dX6_holds_46 (by rw [c_21]; decide) (by rw [c_21]; decide) (by rw [c_21]; rfl) (by decide) ?_
                  refine lv_aload_n S.1 S.2.1 dX6_holds_362 rfl (lv_at hl 1 rfl) ?_
                  refine lv_iload_n S.1 S.2.1 dX6_holds_363 rfl (lv_at hl 2 rfl) ?_
                  refine lv_iload_n S.1 S.2.1 dX6_holds_364 rfl (lv_at hl 3 rfl) ?_
                  obtain ⟨r_22, σ_22, e_22, h⟩ := b2s h
                  refine cCallI S hK cKSc hKS hA (kX6_since e_22) (cwX6_76 S.2.2.2.2 (rm := rmX6_since) rfl rfl ⟨Nat.le_of_ble_eq_true rfl, Nat.le_of_ble_eq_true rfl⟩) hB 54 rfl rfl rfl hl.1 rfl (lv_room (Nat.le_of_ble_eq_true rfl)) dX6_holds_365 ⟨Nat.zero_le _, Nat.zero_le _⟩ (fun H locs hB => ?_)
                  obtain ⟨z_23, h⟩ := gd h
                  cases h
                  exact gRetZ S.1 S.2.1 hr hlk hB (nzB z_23) dX6_holds_368
                · replace h := (if_neg c_21).symm.trans h
                  by_cases c_24 : (getI 1200 (σ1.2.2.1 15) x1) = 12
                  · replace h := (if_pos c_24).symm.trans h
                    refine lv_tableIn (off := 208) (tgt := 254) S.1 S.2.1 dX6_holds_46 (by rw [c_24]; decide) (by rw [c_24]; decide) (by rw [c_24]; rfl) (by decide) ?_
                    refine lv_lload_n S.1 S.2.1 dX6_holds_254 rfl (lv_at hl 4 rfl) ?_
                    refine lv_lconst (v := 0) S.1 S.2.1 dX6_holds_255 (by decide) ?_
                    refine W.lcmp S.1 S.2.1 dX6_holds_256 ?_
                    refine lv_if_eq (tgt := 271) S.1 S.2.1 dX6_holds_257 (by decide) (fun c_25 => ?_) (fun c_25 => ?_)
                    · replace c_25 := lc_eq.mp c_25
                      replace h := (if_pos c_25).symm.trans h
                      refine lv_iconst (v := (0 : Int32)) S.1 S.2.1 dX6_holds_271 (by decide) ?_
                      cases h
                      exact gRetZ S.1 S.2.1 hr hlk hB rfl dX6_holds_272
                    · replace c_25 := (not_congr lc_eq).mp c_25
                      replace h := (if_neg c_25).symm.trans h
                      refine lv_lload S.1 S.2.1 dX6_holds_260 (lv_at hl 5 rfl) ?_
                      refine lv_lconst (v := 0) S.1 S.2.1 dX6_holds_262 (by decide) ?_
                      refine W.lcmp S.1 S.2.1 dX6_holds_263 ?_
                      refine lv_if_eq (tgt := 271) S.1 S.2.1 dX6_holds_264 (by decide) (fun c_26 => ?_) (fun c_26 => ?_)
                      · replace c_26 := lc_eq.mp c_26
                        replace h := (if_pos c_26).symm.trans h
                        refine lv_iconst (v := (0 : Int32)) S.1 S.2.1 dX6_holds_271 (by decide) ?_
                        cases h
                        exact gRetZ S.1 S.2.1 hr hlk hB rfl dX6_holds_272
                      · replace c_26 := (not_congr lc_eq).mp c_26
                        replace h := (if_neg c_26).symm.trans h
                        refine lv_iconst (v := (1 : Int32)) S.1 S.2.1 dX6_holds_267 (by decide) ?_
                        refine lv_goto (tgt := 272) S.1 S.2.1 dX6_holds_268 (by decide) ?_
                        cases h
                        exact gRetZ S.1 S.2.1 hr hlk hB rfl dX6_holds_272
                  · replace h := (if_neg c_24).symm.trans h
                    by_cases c_27 : (getI 1200 (σ1.2.2.1 15) x1) = 13
                    · replace h := (if_pos c_27).symm.trans h
                      refine lv_tableIn (off := 227) (tgt := 273) S.1 S.2.1 dX6_holds_46 (by rw [c_27]; decide) (by rw [c_27]; decide) (by rw [c_27]; rfl) (by decide) ?_
                      refine lv_lload_n S.1 S.2.1 dX6_holds_273 rfl (lv_at hl 4 rfl) ?_
                      refine lv_lconst (v := 0) S.1 S.2.1 dX6_holds_274 (by decide) ?_
                      refine W.lcmp S.1 S.2.1 dX6_holds_275 ?_
                      refine lv_if_ne (tgt := 286) S.1 S.2.1 dX6_holds_276 (by decide) (fun c_28 => ?_) (fun c_28 => ?_)
                      · replace c_28 := (not_congr lc_eq).mp c_28
                        replace h := (if_neg c_28).symm.trans h
                        refine lv_iconst (v := (1 : Int32)) S.1 S.2.1 dX6_holds_286 (by decide) ?_
                        refine lv_goto (tgt := 291) S.1 S.2.1 dX6_holds_287 (by decide) ?_
                        cases h
                        exact gRetZ S.1 S.2.1 hr hlk hB rfl dX6_holds_291
                      · replace c_28 := lc_eq.mp c_28
                        replace h := (if_pos c_28).symm.trans h
                        refine lv_lload S.1 S.2.1 dX6_holds_279 (lv_at hl 5 rfl) ?_
                        refine lv_lconst (v := 0) S.1 S.2.1 dX6_holds_281 (by decide) ?_
                        refine W.lcmp S.1 S.2.1 dX6_holds_282 ?_
                        refine lv_if_eq (tgt := 290) S.1 S.2.1 dX6_holds_283 (by decide) (fun c_29 => ?_) (fun c_29 => ?_)
                        · replace c_29 := lc_eq.mp c_29
                          replace h := (if_pos c_29).symm.trans h
                          refine lv_iconst (v := (0 : Int32)) S.1 S.2.1 dX6_holds_290 (by decide) ?_
                          cases h
                          exact gRetZ S.1 S.2.1 hr hlk hB rfl dX6_holds_291
                        · replace c_29 := (not_congr lc_eq).mp c_29
                          replace h := (if_neg c_29).symm.trans h
                          refine lv_iconst (v := (1 : Int32)) S.1 S.2.1 dX6_holds_286 (by decide) ?_
                          refine lv_goto (tgt := 291) S.1 S.2.1 dX6_holds_287 (by decide) ?_
                          cases h
                          exact gRetZ S.1 S.2.1 hr hlk hB rfl dX6_holds_291
                    · replace h := (if_neg c_27).symm.trans h
                      by_cases c_30 : (getI 1200 (σ1.2.2.1 15) x1) = 14
                      · replace h := (if_pos c_30).symm.trans h
                        refine lv_tableIn (off := 246) (tgt := 292) S.1 S.2.1 dX6_holds_46 (by rw [c_30]; decide) (by rw [c_30]; decide) (by rw [c_30]; rfl) (by decide) ?_
                        refine lv_lload_n S.1 S.2.1 dX6_holds_292 rfl (lv_at hl 4 rfl) ?_
                        refine lv_lconst (v := 0) S.1 S.2.1 dX6_holds_293 (by decide) ?_
                        refine W.lcmp S.1 S.2.1 dX6_holds_294 ?_
                        refine lv_if_eq (tgt := 305) S.1 S.2.1 dX6_holds_295 (by decide) (fun c_31 => ?_) (fun c_31 => ?_)
                        · replace c_31 := lc_eq.mp c_31
                          replace h := (if_pos c_31).symm.trans h
                          refine lv_iconst (v := (1 : Int32)) S.1 S.2.1 dX6_holds_305 (by decide) ?_
                          refine lv_goto (tgt := 310) S.1 S.2.1 dX6_holds_306 (by decide) ?_
                          cases h
                          exact gRetZ S.1 S.2.1 hr hlk hB rfl dX6_holds_310
                        · replace c_31 := (not_congr lc_eq).mp c_31
                          replace h := (if_neg c_31).symm.trans h
                          refine lv_lload S.1 S.2.1 dX6_holds_298 (lv_at hl 5 rfl) ?_
                          refine lv_lconst (v := 0) S.1 S.2.1 dX6_holds_300 (by decide) ?_
                          refine W.lcmp S.1 S.2.1 dX6_holds_301 ?_
                          refine lv_if_eq (tgt := 309) S.1 S.2.1 dX6_holds_302 (by decide) (fun c_32 => ?_) (fun c_32 => ?_)
                          · replace c_32 := lc_eq.mp c_32
                            replace h := (if_pos c_32).symm.trans h
                            refine lv_iconst (v := (0 : Int32)) S.1 S.2.1 dX6_holds_309 (by decide) ?_
                            cases h
                            exact gRetZ S.1 S.2.1 hr hlk hB rfl dX6_holds_310
                          · replace c_32 := (not_congr lc_eq).mp c_32
                            replace h := (if_neg c_32).symm.trans h
                            refine lv_iconst (v := (1 : Int32)) S.1 S.2.1 dX6_holds_305 (by decide) ?_
                            refine lv_goto (tgt := 310) S.1 S.2.1 dX6_holds_306 (by decide) ?_
                            cases h
                            exact gRetZ S.1 S.2.1 hr hlk hB rfl dX6_holds_310
                      · replace h := (if_neg c_30).symm.trans h
                        by_cases c_33 : (getI 1200 (σ1.2.2.1 15) x1) = 16
                        · replace h := (if_pos c_33).symm.trans h
                          refine lv_tableIn (off := 194) (tgt := 240) S.1 S.2.1 dX6_holds_46 (by rw [c_33]; decide) (by rw [c_33]; decide) (by rw [c_33]; rfl) (by decide) ?_
                          refine lv_iconst (v := (1 : Int32)) S.1 S.2.1 dX6_holds_240 (by decide) ?_
                          cases h
                          exact gRetZ S.1 S.2.1 hr hlk hB rfl dX6_holds_241
                        · replace h := (if_neg c_33).symm.trans h
                          by_cases c_34 : (getI 1200 (σ1.2.2.1 15) x1) = 44
                          · replace h := (if_pos c_34).symm.trans h
                            refine lv_tableIn (off := 323) (tgt := 369) S.1 S.2.1 dX6_holds_46 (by rw [c_34]; decide) (by rw [c_34]; decide) (by rw [c_34]; rfl) (by decide) ?_
                            refine lv_lload_n S.1 S.2.1 dX6_holds_369 rfl (lv_at hl 4 rfl) ?_
                            refine lv_lload S.1 S.2.1 dX6_holds_370 (lv_at hl 5 rfl) ?_
                            refine W.lcmp S.1 S.2.1 dX6_holds_372 ?_
                            refine lv_if_ne (tgt := 380) S.1 S.2.1 dX6_holds_373 (by decide) (fun c_35 => ?_) (fun c_35 => ?_)
                            · replace c_35 := (not_congr lc_eq).mp c_35
                              replace h := (if_neg c_35).symm.trans h
                              refine lv_iconst (v := (0 : Int32)) S.1 S.2.1 dX6_holds_380 (by decide) ?_
                              cases h
                              exact gRetZ S.1 S.2.1 hr hlk hB rfl dX6_holds_381
                            · replace c_35 := lc_eq.mp c_35
                              replace h := (if_pos c_35).symm.trans h
                              refine lv_iconst (v := (1 : Int32)) S.1 S.2.1 dX6_holds_376 (by decide) ?_
                              refine lv_goto (tgt := 381) S.1 S.2.1 dX6_holds_377 (by decide) ?_
                              cases h
                              exact gRetZ S.1 S.2.1 hr hlk hB rfl dX6_holds_381
                          · replace h := (if_neg c_34).symm.trans h
                            by_cases c_36 : (getI 1200 (σ1.2.2.1 15) x1) = 45
                            · replace h := (if_pos c_36).symm.trans h
                              refine lv_tableIn (off := 336) (tgt := 382) S.1 S.2.1 dX6_holds_46 (by rw [c_36]; decide) (by rw [c_36]; decide) (by rw [c_36]; rfl) (by decide) ?_
                              refine lv_lload_n S.1 S.2.1 dX6_holds_382 rfl (lv_at hl 4 rfl) ?_
                              refine lv_lload S.1 S.2.1 dX6_holds_383 (lv_at hl 5 rfl) ?_
                              refine W.lcmp S.1 S.2.1 dX6_holds_385 ?_
                              refine lv_if_eq (tgt := 393) S.1 S.2.1 dX6_holds_386 (by decide) (fun c_37 => ?_) (fun c_37 => ?_)
                              · replace c_37 := lc_eq.mp c_37
                                replace h := (if_pos c_37).symm.trans h
                                refine lv_iconst (v := (0 : Int32)) S.1 S.2.1 dX6_holds_393 (by decide) ?_
                                cases h
                                exact gRetZ S.1 S.2.1 hr hlk hB rfl dX6_holds_394
                              · replace c_37 := (not_congr lc_eq).mp c_37
                                replace h := (if_neg c_37).symm.trans h
                                refine lv_iconst (v := (1 : Int32)) S.1 S.2.1 dX6_holds_389 (by decide) ?_
                                refine lv_goto (tgt := 394) S.1 S.2.1 dX6_holds_390 (by decide) ?_
                                cases h
                                exact gRetZ S.1 S.2.1 hr hlk hB rfl dX6_holds_394
                            · replace h := (if_neg c_36).symm.trans h
                              by_cases c_38 : (getI 1200 (σ1.2.2.1 15) x1) = 46
                              · replace h := (if_pos c_38).symm.trans h
                                refine lv_tableIn (off := 349) (tgt := 395) S.1 S.2.1 dX6_holds_46 (by rw [c_38]; decide) (by rw [c_38]; decide) (by rw [c_38]; rfl) (by decide) ?_
                                refine lv_lload_n S.1 S.2.1 dX6_holds_395 rfl (lv_at hl 4 rfl) ?_
                                refine lv_lload S.1 S.2.1 dX6_holds_396 (lv_at hl 5 rfl) ?_
                                refine W.lcmp S.1 S.2.1 dX6_holds_398 ?_
                                refine lv_if_ge (tgt := 406) S.1 S.2.1 dX6_holds_399 (by decide) (fun c_39 => ?_) (fun c_39 => ?_)
                                · replace c_39 := lc_ge.mp c_39
                                  replace h := (if_pos c_39).symm.trans h
                                  refine lv_iconst (v := (0 : Int32)) S.1 S.2.1 dX6_holds_406 (by decide) ?_
                                  cases h
                                  exact gRetZ S.1 S.2.1 hr hlk hB rfl dX6_holds_407
                                · replace c_39 := (not_congr lc_ge).mp c_39
                                  replace h := (if_neg c_39).symm.trans h
                                  refine lv_iconst (v := (1 : Int32)) S.1 S.2.1 dX6_holds_402 (by decide) ?_
                                  refine lv_goto (tgt := 407) S.1 S.2.1 dX6_holds_403 (by decide) ?_
                                  cases h
                                  exact gRetZ S.1 S.2.1 hr hlk hB rfl dX6_holds_407
                              · replace h := (if_neg c_38).symm.trans h
                                by_cases c_40 : (getI 1200 (σ1.2.2.1 15) x1) = 47
                                · replace h := (if_pos c_40).symm.trans h
                                  refine lv_tableIn (off := 362) (tgt := 408) S.1 S.2.1 dX6_holds_46 (by rw [c_40]; decide) (by rw [c_40]; decide) (by rw [c_40]; rfl) (by decide) ?_
                                  refine lv_lload_n S.1 S.2.1 dX6_holds_408 rfl (lv_at hl 4 rfl) ?_
                                  refine lv_lload S.1 S.2.1 dX6_holds_409 (lv_at hl 5 rfl) ?_
                                  refine W.lcmp S.1 S.2.1 dX6_holds_411 ?_
                                  refine lv_if_le (tgt := 419) S.1 S.2.1 dX6_holds_412 (by decide) (fun c_41 => ?_) (fun c_41 => ?_)
                                  · replace c_41 := lc_le.mp c_41
                                    replace h := (if_pos c_41).symm.trans h
                                    refine lv_iconst (v := (0 : Int32)) S.1 S.2.1 dX6_holds_419 (by decide) ?_
                                    cases h
                                    exact gRetZ S.1 S.2.1 hr hlk hB rfl dX6_holds_420
                                  · replace c_41 := (not_congr lc_le).mp c_41
                                    replace h := (if_neg c_41).symm.trans h
                                    refine lv_iconst (v := (1 : Int32)) S.1 S.2.1 dX6_holds_415 (by decide) ?_
                                    refine lv_goto (tgt := 420) S.1 S.2.1 dX6_holds_416 (by decide) ?_
                                    cases h
                                    exact gRetZ S.1 S.2.1 hr hlk hB rfl dX6_holds_420
                                · replace h := (if_neg c_40).symm.trans h
                                  by_cases c_42 : (getI 1200 (σ1.2.2.1 15) x1) = 48
                                  · replace h := (if_pos c_42).symm.trans h
                                    refine lv_tableIn (off := 375) (tgt := 421) S.1 S.2.1 dX6_holds_46 (by rw [c_42]; decide) (by rw [c_42]; decide) (by rw [c_42]; rfl) (by decide) ?_
                                    refine lv_lload_n S.1 S.2.1 dX6_holds_421 rfl (lv_at hl 4 rfl) ?_
                                    refine lv_lload S.1 S.2.1 dX6_holds_422 (lv_at hl 5 rfl) ?_
                                    refine W.lcmp S.1 S.2.1 dX6_holds_424 ?_
                                    refine lv_if_gt (tgt := 432) S.1 S.2.1 dX6_holds_425 (by decide) (fun c_43 => ?_) (fun c_43 => ?_)
                                    · replace c_43 := lc_gt.mp c_43
                                      replace h := (if_pos c_43).symm.trans h
                                      refine lv_iconst (v := (0 : Int32)) S.1 S.2.1 dX6_holds_432 (by decide) ?_
                                      cases h
                                      exact gRetZ S.1 S.2.1 hr hlk hB rfl dX6_holds_433
                                    · replace c_43 := (not_congr lc_gt).mp c_43
                                      replace h := (if_neg c_43).symm.trans h
                                      refine lv_iconst (v := (1 : Int32)) S.1 S.2.1 dX6_holds_428 (by decide) ?_
                                      refine lv_goto (tgt := 433) S.1 S.2.1 dX6_holds_429 (by decide) ?_
                                      cases h
                                      exact gRetZ S.1 S.2.1 hr hlk hB rfl dX6_holds_433
                                  · replace h := (if_neg c_42).symm.trans h
                                    by_cases c_44 : (getI 1200 (σ1.2.2.1 15) x1) = 49
                                    · replace h := (if_pos c_44).symm.trans h
                                      refine lv_tableIn (off := 388) (tgt := 434) S.1 S.2.1 dX6_holds_46 (by rw [c_44]; decide) (by rw [c_44]; decide) (by rw [c_44]; rfl) (by decide) ?_
                                      refine lv_lload_n S.1 S.2.1 dX6_holds_434 rfl (lv_at hl 4 rfl) ?_
                                      refine lv_lload S.1 S.2.1 dX6_holds_435 (lv_at hl 5 rfl) ?_
                                      refine W.lcmp S.1 S.2.1 dX6_holds_437 ?_
                                      refine lv_if_lt (tgt := 445) S.1 S.2.1 dX6_holds_438 (by decide) (fun c_45 => ?_) (fun c_45 => ?_)
                                      · replace c_45 := lc_lt.mp c_45
                                        replace h := (if_pos c_45).symm.trans h
                                        refine lv_iconst (v := (0 : Int32)) S.1 S.2.1 dX6_holds_445 (by decide) ?_
                                        cases h
                                        exact gRetZ S.1 S.2.1 hr hlk hB rfl dX6_holds_446
                                      · replace c_45 := (not_congr lc_lt).mp c_45
                                        replace h := (if_neg c_45).symm.trans h
                                        refine lv_iconst (v := (1 : Int32)) S.1 S.2.1 dX6_holds_441 (by decide) ?_
                                        refine lv_goto (tgt := 446) S.1 S.2.1 dX6_holds_442 (by decide) ?_
                                        cases h
                                        exact gRetZ S.1 S.2.1 hr hlk hB rfl dX6_holds_446
                                    · replace h := (if_neg c_44).symm.trans h
                                      refine swT (tgt := 447) (cs := [5, 6, 7, 8, 9, 10, 11, 12, 13, 14, 16, 44, 45, 46, 47, 48, 49]) S.1 S.2.1 dX6_holds_46 (List.forall_mem_cons.mpr ⟨lv_neT c_5 (by decide), List.forall_mem_cons.mpr ⟨lv_neT c_7 (by decide), List.forall_mem_cons.mpr ⟨lv_neT c_9 (by decide), List.forall_mem_cons.mpr ⟨lv_neT c_12 (by decide), List.forall_mem_cons.mpr ⟨lv_neT c_15 (by decide), List.forall_mem_cons.mpr ⟨lv_neT c_18 (by decide), List.forall_mem_cons.mpr ⟨lv_neT c_21 (by decide), List.forall_mem_cons.mpr ⟨lv_neT c_24 (by decide), List.forall_mem_cons.mpr ⟨lv_neT c_27 (by decide), List.forall_mem_cons.mpr ⟨lv_neT c_30 (by decide), List.forall_mem_cons.mpr ⟨lv_neT c_33 (by decide), List.forall_mem_cons.mpr ⟨lv_neT c_34 (by decide), List.forall_mem_cons.mpr ⟨lv_neT c_36 (by decide), List.forall_mem_cons.mpr ⟨lv_neT c_38 (by decide), List.forall_mem_cons.mpr ⟨lv_neT c_40 (by decide), List.forall_mem_cons.mpr ⟨lv_neT c_42 (by decide), List.forall_mem_cons.mpr ⟨lv_neT c_44 (by decide), List.forall_mem_nil _⟩⟩⟩⟩⟩⟩⟩⟩⟩⟩⟩⟩⟩⟩⟩⟩⟩) (by decide) (by decide) (by decide) ?_
                                      refine lv_iconst (v := (0 : Int32)) S.1 S.2.1 dX6_holds_447 (by decide) ?_
                                      cases h
                                      exact gRetZ S.1 S.2.1 hr hlk hB rfl dX6_holds_448
  refine lv_aload_n S.1 S.2.1 dX6_holds_0 rfl (lv_at hl 0 rfl) ?_
  refine lv_iload_n S.1 S.2.1 dX6_holds_1 rfl (lv_at hl 1 rfl) ?_
  refine lv_iload_n S.1 S.2.1 dX6_holds_2 rfl (lv_at hl 2 rfl) ?_
  obtain ⟨r_1, σ_1, e_1, h⟩ := b2s h
  refine cCallL S hK cKSc hKS hA (kX6_first e_1) (cwX6_64 S.2.2.2.2 (rm := rmX6_first) rfl rfl ⟨Nat.le_of_ble_eq_true rfl, Nat.le_of_ble_eq_true rfl⟩) hB 54 rfl rfl rfl hl.1 rfl (lv_room (Nat.le_of_ble_eq_true rfl)) dX6_holds_3 ⟨Nat.zero_le _, Nat.zero_le _⟩ (fun H locs hB => ?_)
  refine lv_lstore_n (lv' := [(3, .long r_1), (0, .ref (ad 54)), (1, .int p0), (2, .int p1)]) S.1 S.2.1 dX6_holds_6 rfl hl (by decide) rfl (fun ls hl => ?_)
  refine lv_aload_n S.1 S.2.1 dX6_holds_7 rfl (lv_at hl 1 rfl) ?_
  refine lv_iload_n S.1 S.2.1 dX6_holds_8 rfl (lv_at hl 2 rfl) ?_
  refine lv_iload_n S.1 S.2.1 dX6_holds_9 rfl (lv_at hl 3 rfl) ?_
  obtain ⟨r_2, σ_2, e_2, h⟩ := b2s h
  refine cCallL S hK cKSc hKS hA (kX6_second e_2) (cwX6_67 S.2.2.2.2 (rm := rmX6_second) rfl rfl ⟨Nat.le_of_ble_eq_true rfl, Nat.le_of_ble_eq_true rfl⟩) hB 54 rfl rfl rfl hl.1 rfl (lv_room (Nat.le_of_ble_eq_true rfl)) dX6_holds_10 ⟨Nat.zero_le _, Nat.zero_le _⟩ (fun H locs hB => ?_)
  refine lv_lstore (lv' := [(5, .long r_2), (3, .long r_1), (0, .ref (ad 54)), (1, .int p0), (2, .int p1)]) S.1 S.2.1 dX6_holds_13 hl (by decide) rfl (fun ls hl => ?_)
  refine lv_aload_n S.1 S.2.1 dX6_holds_15 rfl (lv_at hl 2 rfl) ?_
  refine lv_iload_n S.1 S.2.1 dX6_holds_16 rfl (lv_at hl 3 rfl) ?_
  refine lv_iload_n S.1 S.2.1 dX6_holds_17 rfl (lv_at hl 4 rfl) ?_
  refine lv_iconst (v := (1 : Int32)) S.1 S.2.1 dX6_holds_18 (by decide) ?_
  refine lv_isub S.1 S.2.1 dX6_holds_19 ?_
  obtain ⟨r_3, σ_3, e_3, h⟩ := b2s h
  refine cCallL S hK cKSc hKS hA (kX6_first e_3) (cwX6_64 S.2.2.2.2 (rm := rmX6_first) rfl rfl ⟨Nat.le_of_ble_eq_true rfl, Nat.le_of_ble_eq_true rfl⟩) hB 54 rfl rfl rfl hl.1 rfl (lv_room (Nat.le_of_ble_eq_true rfl)) dX6_holds_20 ⟨Nat.zero_le _, Nat.zero_le _⟩ (fun H locs hB => ?_)
  refine lv_lconst (v := 0) S.1 S.2.1 dX6_holds_23 (by decide) ?_
  refine W.lcmp S.1 S.2.1 dX6_holds_24 ?_
  refine lv_if_eq (tgt := 32) S.1 S.2.1 dX6_holds_25 (by decide) (fun c_4 => ?_) (fun c_4 => ?_)
  · replace c_4 := lc_eq.mp c_4
    replace h := (if_pos c_4).symm.trans h
    refine lv_iconst (v := (0 : Int32)) S.1 S.2.1 dX6_holds_32 (by decide) ?_
    exact P33  _ _ _ _ _ _ _ _ _ h hB (lv_sub hl [2, 3, 4, 1, 0] rfl)
  · replace c_4 := (not_congr lc_eq).mp c_4
    replace h := (if_neg c_4).symm.trans h
    refine lv_iconst (v := (1 : Int32)) S.1 S.2.1 dX6_holds_28 (by decide) ?_
    refine lv_goto (tgt := 33) S.1 S.2.1 dX6_holds_29 (by decide) ?_
    exact P33  _ _ _ _ _ _ _ _ _ h hB (lv_sub hl [2, 3, 4, 1, 0] rfl)
def FX6_number (p0 : Int32) (p1 : Int32) (σ : CS) : Option (Int64 × CS) :=
  b2 (FX6_first p0 p1 σ) fun r_1 σ_1 =>
  b2 (FX6_second p0 p1 σ_1) fun r_2 σ_2 =>
  if (getI 1200 (σ_2.2.2.1 15) p0) = 0 then
    some ((getT 8 (σ_2.2.2.2.2 0) (getI 1200 (σ_2.2.2.1 19) p0) p1), σ_2)
  else if (getI 1200 (σ_2.2.2.1 15) p0) = 18 then
    if r_1 = (0 : Int64) then
      some ((getT 1200 (σ_2.2.2.2.2 2) (getI 1200 (σ_2.2.2.1 23) p0) p1), σ_2)
    else
      some (r_2, σ_2)
  else if (getI 1200 (σ_2.2.2.1 15) p0) = 21 then
    b2 (FX6_first p0 (p1 - (1 : Int32)) σ_2) fun r_7 σ_7 =>
    some (r_7, σ_7)
  else if (getI 1200 (σ_2.2.2.1 15) p0) = 22 then
    if p1 = 0 then
      some (r_1, σ_2)
    else
      some ((if r_1 < (getT 1200 (σ_2.2.2.2.2 2) p0 (p1 - (1 : Int32))) then (getT 1200 (σ_2.2.2.2.2 2) p0 (p1 - (1 : Int32))) else r_1), σ_2)
  else if (getI 1200 (σ_2.2.2.1 15) p0) = 23 then
    if p1 = 0 then
      some (r_1, σ_2)
    else
      some ((if r_1 < (getT 1200 (σ_2.2.2.2.2 2) p0 (p1 - (1 : Int32))) then r_1 else (getT 1200 (σ_2.2.2.2.2 2) p0 (p1 - (1 : Int32)))), σ_2)
  else if (getI 1200 (σ_2.2.2.1 15) p0) = 24 then
    some (((getT 1200 (σ_2.2.2.2.2 2) p0 (p1 - (1 : Int32))) + r_1), σ_2)
  else if (getI 1200 (σ_2.2.2.1 15) p0) = 25 then
    some (((getT 1200 (σ_2.2.2.2.2 2) p0 (p1 - (1 : Int32))) + r_1), σ_2)
  else if (getI 1200 (σ_2.2.2.1 15) p0) = 26 then
    if r_1 = (0 : Int64) then
      some ((getT 1200 (σ_2.2.2.2.2 2) p0 (p1 - (1 : Int32))), σ_2)
    else
      some (r_2, σ_2)
  else if (getI 1200 (σ_2.2.2.1 15) p0) = 27 then
    if r_1 = (0 : Int64) then
      b2 (FX6_ageOfLast (getT 1200 (σ_2.2.2.2.2 2) p0 (p1 - (1 : Int32))) p1 σ_2) fun r_18 σ_18 =>
      some (r_18, σ_18)
    else
      some ((0 : Int64), σ_2)
  else if (getI 1200 (σ_2.2.2.1 15) p0) = 28 then
    some ((getI 120 (σ_2.2.2.1 46) p1).toInt64, σ_2)
  else if (getI 1200 (σ_2.2.2.1 15) p0) = 29 then
    some (p1.toInt64, σ_2)
  else if (getI 1200 (σ_2.2.2.1 15) p0) = 39 then
    some ((r_1 + r_2), σ_2)
  else if (getI 1200 (σ_2.2.2.1 15) p0) = 40 then
    some ((r_1 - r_2), σ_2)
  else if (getI 1200 (σ_2.2.2.1 15) p0) = 41 then
    some ((r_1 * r_2), σ_2)
  else if (getI 1200 (σ_2.2.2.1 15) p0) = 42 then
    if r_2 = (0 : Int64) then
      some ((0 : Int64), σ_2)
    else
      if (r_2 = 0) then none else
      some ((r_1 / r_2), σ_2)
  else if (getI 1200 (σ_2.2.2.1 15) p0) = 43 then
    if r_2 = (0 : Int64) then
      some ((0 : Int64), σ_2)
    else
      if (r_2 = 0) then none else
      some ((r_1 - r_1 / r_2 * r_2), σ_2)
  else if (getI 1200 (σ_2.2.2.1 15) p0) = 52 then
    some ((getI 1200 (σ_2.2.2.1 19) p0).toInt64, σ_2)
  else if (getI 1200 (σ_2.2.2.1 15) p0) = 55 then
    some ((-r_1), σ_2)
  else 
    some ((0 : Int64), σ_2)
abbrev rmX6_number : Room := { frames := 3, cells := 0, slots := 0, locals := 66 }
set_option maxRecDepth 100000 in
set_option maxHeartbeats 4000000 in
theorem kX6_number {l : Launch} {D : va_G} {cI cJ cQ : ClassId} {ad : Nat → Nat} {ra : Nat → Nat → Nat} {adK adV tK : Nat → Nat} {p0 : Int32} {p1 : Int32} {σ σ' : CS} {r : Int64} (h : FX6_number p0 p1 σ = some (r, σ')) : gMet l yX6_number qX6_number rmX6_number 0 0 D vwCl [(cI, .int), (cJ, .long), (cQ, .array .long)] (cKS adK adV tK) [.ref (ad 54), .int p0, .int p1] (CW cI cJ cQ ad ra σ) (CW cI cJ cQ ad ra σ') (some (.long r)) := by
  refine gMet.of (cc := cX6_number) (maxL := 9) (ret := (some .long)) (by decide) rfl (Nat.le_of_ble_eq_true rfl) ?_
  intro p e s m args below meth c S hr hlk hnm hK hKS hA hB ls hl
  have hl : lv_has ls 9 [(0, .ref (ad 54)), (1, .int p0), (2, .int p1)] := hl
  replace S : CallFix p m c cX6_number 9 s args (_ :: wsL_law) RX6 := S
  rw [FX6_number] at h
  refine lv_aload_n S.1 S.2.1 dX6_number_0 rfl (lv_at hl 0 rfl) ?_
  refine lv_iload_n S.1 S.2.1 dX6_number_1 rfl (lv_at hl 1 rfl) ?_
  refine lv_iload_n S.1 S.2.1 dX6_number_2 rfl (lv_at hl 2 rfl) ?_
  obtain ⟨r_1, σ_1, e_1, h⟩ := b2s h
  refine cCallL S hK cKSc hKS hA (kX6_first e_1) (cwX6_64 S.2.2.2.2 (rm := rmX6_first) rfl rfl ⟨Nat.le_of_ble_eq_true rfl, Nat.le_of_ble_eq_true rfl⟩) hB 54 rfl rfl rfl hl.1 rfl (lv_room (Nat.le_of_ble_eq_true rfl)) dX6_number_3 ⟨Nat.zero_le _, Nat.zero_le _⟩ (fun H locs hB => ?_)
  refine lv_lstore_n (lv' := [(3, .long r_1), (0, .ref (ad 54)), (1, .int p0), (2, .int p1)]) S.1 S.2.1 dX6_number_6 rfl hl (by decide) rfl (fun ls hl => ?_)
  refine lv_aload_n S.1 S.2.1 dX6_number_7 rfl (lv_at hl 1 rfl) ?_
  refine lv_iload_n S.1 S.2.1 dX6_number_8 rfl (lv_at hl 2 rfl) ?_
  refine lv_iload_n S.1 S.2.1 dX6_number_9 rfl (lv_at hl 3 rfl) ?_
  obtain ⟨r_2, σ_2, e_2, h⟩ := b2s h
  refine cCallL S hK cKSc hKS hA (kX6_second e_2) (cwX6_67 S.2.2.2.2 (rm := rmX6_second) rfl rfl ⟨Nat.le_of_ble_eq_true rfl, Nat.le_of_ble_eq_true rfl⟩) hB 54 rfl rfl rfl hl.1 rfl (lv_room (Nat.le_of_ble_eq_true rfl)) dX6_number_10 ⟨Nat.zero_le _, Nat.zero_le _⟩ (fun H locs hB => ?_)
  refine lv_lstore (lv' := [(5, .long r_2), (3, .long r_1), (0, .ref (ad 54)), (1, .int p0), (2, .int p1)]) S.1 S.2.1 dX6_number_13 hl (by decide) rfl (fun ls hl => ?_)
  refine lv_aload_n S.1 S.2.1 dX6_number_15 rfl (lv_at hl 2 rfl) ?_
  refine tg_54_2 S hK hB (S.2.2.2.2 _ (List.mem_cons_of_mem _ wf_X6_14)) dX6_number_16 ?_
  refine lv_iload_n S.1 S.2.1 dX6_number_19 rfl (lv_at hl 3 rfl) ?_
  refine lv_iload_n S.1 S.2.1 dX6_number_20 rfl (lv_at hl 4 rfl) ?_
  refine lv_iconst (v := (1 : Int32)) S.1 S.2.1 dX6_number_21 (by decide) ?_
  refine lv_isub S.1 S.2.1 dX6_number_22 ?_
  refine lg_55 (r := (getT 1200 (σ_2.2.2.2.2 2) p0 (p1 - (1 : Int32)))) S hK cKSc hKS hA hB rfl (cwX6_59 S.2.2.2.2 (rm := { frames := 0, cells := 0, slots := 0, locals := 0 }) rfl rfl ⟨Nat.le_of_ble_eq_true rfl, Nat.le_of_ble_eq_true rfl⟩) hl.1 (lv_room (Nat.le_of_ble_eq_true rfl)) dX6_number_23 ⟨Nat.zero_le _, Nat.zero_le _⟩ (fun H locs hB => ?_)
  refine lv_lstore (lv' := [(7, .long (getT 1200 (σ_2.2.2.2.2 2) p0 (p1 - (1 : Int32)))), (5, .long r_2), (3, .long r_1), (0, .ref (ad 54)), (1, .int p0), (2, .int p1)]) S.1 S.2.1 dX6_number_26 hl (by decide) rfl (fun ls hl => ?_)
  refine lv_aload_n S.1 S.2.1 dX6_number_28 rfl (lv_at hl 3 rfl) ?_
  refine tg_54_0 S hK hB (S.2.2.2.2 _ (List.mem_cons_of_mem _ wf_X6_20)) dX6_number_29 ?_
  refine tgN_13_0 S hK hB (nF hKS 5 rfl) dX6_number_32 ?_
  refine lv_iload_n S.1 S.2.1 dX6_number_35 rfl (lv_at hl 4 rfl) ?_
  refine lg_14 (r := (getI 1200 (σ_2.2.2.1 15) p0)) S hK cKSc hKS hA hB rfl (cwX6_34 S.2.2.2.2 (rm := { frames := 0, cells := 0, slots := 0, locals := 0 }) rfl rfl ⟨Nat.le_of_ble_eq_true rfl, Nat.le_of_ble_eq_true rfl⟩) hl.1 (lv_room (Nat.le_of_ble_eq_true rfl)) dX6_number_36 ⟨Nat.zero_le _, Nat.zero_le _⟩ (fun H locs hB => ?_)
  by_cases c_3 : (getI 1200 (σ_2.2.2.1 15) p0) = 0
  · replace h := (if_pos c_3).symm.trans h
    refine lv_tableIn (off := 250) (tgt := 289) S.1 S.2.1 dX6_number_39 (by rw [c_3]; decide) (by rw [c_3]; decide) (by rw [c_3]; rfl) (by decide) ?_
    refine lv_aload_n S.1 S.2.1 dX6_number_289 rfl (lv_at hl 3 rfl) ?_
    refine tg_54_1 S hK hB (S.2.2.2.2 _ (List.mem_cons_of_mem _ wf_X6_24)) dX6_number_290 ?_
    refine tgN_44_1 S hK hB (nF hKS 28 rfl) dX6_number_293 ?_
    refine lv_aload_n S.1 S.2.1 dX6_number_296 rfl (lv_at hl 3 rfl) ?_
    refine tg_54_0 S hK hB (S.2.2.2.2 _ (List.mem_cons_of_mem _ wf_X6_20)) dX6_number_297 ?_
    refine tgN_13_2 S hK hB (nF hKS 7 rfl) dX6_number_300 ?_
    refine lv_iload_n S.1 S.2.1 dX6_number_303 rfl (lv_at hl 4 rfl) ?_
    refine lg_18 (r := (getI 1200 (σ_2.2.2.1 19) p0)) S hK cKSc hKS hA hB rfl (cwX6_34 S.2.2.2.2 (rm := { frames := 0, cells := 0, slots := 0, locals := 0 }) rfl rfl ⟨Nat.le_of_ble_eq_true rfl, Nat.le_of_ble_eq_true rfl⟩) hl.1 (lv_room (Nat.le_of_ble_eq_true rfl)) dX6_number_304 ⟨Nat.zero_le _, Nat.zero_le _⟩ (fun H locs hB => ?_)
    refine lv_iload_n S.1 S.2.1 dX6_number_307 rfl (lv_at hl 5 rfl) ?_
    refine lg_47 (r := (getT 8 (σ_2.2.2.2.2 0) (getI 1200 (σ_2.2.2.1 19) p0) p1)) S hK cKSc hKS hA hB rfl (cwX6_59 S.2.2.2.2 (rm := { frames := 0, cells := 0, slots := 0, locals := 0 }) rfl rfl ⟨Nat.le_of_ble_eq_true rfl, Nat.le_of_ble_eq_true rfl⟩) hl.1 (lv_room (Nat.le_of_ble_eq_true rfl)) dX6_number_308 ⟨Nat.zero_le _, Nat.zero_le _⟩ (fun H locs hB => ?_)
    cases h
    exact gRetL S.1 S.2.1 hr hlk hB dX6_number_311
  · replace h := (if_neg c_3).symm.trans h
    by_cases c_4 : (getI 1200 (σ_2.2.2.1 15) p0) = 18
    · replace h := (if_pos c_4).symm.trans h
      refine lv_tableIn (off := 420) (tgt := 459) S.1 S.2.1 dX6_number_39 (by rw [c_4]; decide) (by rw [c_4]; decide) (by rw [c_4]; rfl) (by decide) ?_
      refine lv_lload_n S.1 S.2.1 dX6_number_459 rfl (lv_at hl 2 rfl) ?_
      refine lv_lconst (v := 0) S.1 S.2.1 dX6_number_460 (by decide) ?_
      refine W.lcmp S.1 S.2.1 dX6_number_461 ?_
      refine lv_if_eq (tgt := 470) S.1 S.2.1 dX6_number_462 (by decide) (fun c_5 => ?_) (fun c_5 => ?_)
      · replace c_5 := lc_eq.mp c_5
        replace h := (if_pos c_5).symm.trans h
        refine lv_aload_n S.1 S.2.1 dX6_number_470 rfl (lv_at hl 3 rfl) ?_
        refine tg_54_2 S hK hB (S.2.2.2.2 _ (List.mem_cons_of_mem _ wf_X6_14)) dX6_number_471 ?_
        refine lv_aload_n S.1 S.2.1 dX6_number_474 rfl (lv_at hl 3 rfl) ?_
        refine tg_54_0 S hK hB (S.2.2.2.2 _ (List.mem_cons_of_mem _ wf_X6_20)) dX6_number_475 ?_
        refine tgN_13_4 S hK hB (nF hKS 9 rfl) dX6_number_478 ?_
        refine lv_iload_n S.1 S.2.1 dX6_number_481 rfl (lv_at hl 4 rfl) ?_
        refine lg_22 (r := (getI 1200 (σ_2.2.2.1 23) p0)) S hK cKSc hKS hA hB rfl (cwX6_34 S.2.2.2.2 (rm := { frames := 0, cells := 0, slots := 0, locals := 0 }) rfl rfl ⟨Nat.le_of_ble_eq_true rfl, Nat.le_of_ble_eq_true rfl⟩) hl.1 (lv_room (Nat.le_of_ble_eq_true rfl)) dX6_number_482 ⟨Nat.zero_le _, Nat.zero_le _⟩ (fun H locs hB => ?_)
        refine lv_iload_n S.1 S.2.1 dX6_number_485 rfl (lv_at hl 5 rfl) ?_
        refine lg_55 (r := (getT 1200 (σ_2.2.2.2.2 2) (getI 1200 (σ_2.2.2.1 23) p0) p1)) S hK cKSc hKS hA hB rfl (cwX6_59 S.2.2.2.2 (rm := { frames := 0, cells := 0, slots := 0, locals := 0 }) rfl rfl ⟨Nat.le_of_ble_eq_true rfl, Nat.le_of_ble_eq_true rfl⟩) hl.1 (lv_room (Nat.le_of_ble_eq_true rfl)) dX6_number_486 ⟨Nat.zero_le _, Nat.zero_le _⟩ (fun H locs hB => ?_)
        cases h
        exact gRetL S.1 S.2.1 hr hlk hB dX6_number_489
      · replace c_5 := (not_congr lc_eq).mp c_5
        replace h := (if_neg c_5).symm.trans h
        refine lv_lload S.1 S.2.1 dX6_number_465 (lv_at hl 1 rfl) ?_
        refine lv_goto (tgt := 489) S.1 S.2.1 dX6_number_467 (by decide) ?_
        cases h
        exact gRetL S.1 S.2.1 hr hlk hB dX6_number_489
    · replace h := (if_neg c_4).symm.trans h
      by_cases c_6 : (getI 1200 (σ_2.2.2.1 15) p0) = 21
      · replace h := (if_pos c_6).symm.trans h
        refine lv_tableIn (off := 339) (tgt := 378) S.1 S.2.1 dX6_number_39 (by rw [c_6]; decide) (by rw [c_6]; decide) (by rw [c_6]; rfl) (by decide) ?_
        refine lv_aload_n S.1 S.2.1 dX6_number_378 rfl (lv_at hl 3 rfl) ?_
        refine lv_iload_n S.1 S.2.1 dX6_number_379 rfl (lv_at hl 4 rfl) ?_
        refine lv_iload_n S.1 S.2.1 dX6_number_380 rfl (lv_at hl 5 rfl) ?_
        refine lv_iconst (v := (1 : Int32)) S.1 S.2.1 dX6_number_381 (by decide) ?_
        refine lv_isub S.1 S.2.1 dX6_number_382 ?_
        obtain ⟨r_7, σ_7, e_7, h⟩ := b2s h
        refine cCallL S hK cKSc hKS hA (kX6_first e_7) (cwX6_64 S.2.2.2.2 (rm := rmX6_first) rfl rfl ⟨Nat.le_of_ble_eq_true rfl, Nat.le_of_ble_eq_true rfl⟩) hB 54 rfl rfl rfl hl.1 rfl (lv_room (Nat.le_of_ble_eq_true rfl)) dX6_number_383 ⟨Nat.zero_le _, Nat.zero_le _⟩ (fun H locs hB => ?_)
        cases h
        exact gRetL S.1 S.2.1 hr hlk hB dX6_number_386
      · replace h := (if_neg c_6).symm.trans h
        by_cases c_8 : (getI 1200 (σ_2.2.2.1 15) p0) = 22
        · replace h := (if_pos c_8).symm.trans h
          refine lv_tableIn (off := 348) (tgt := 387) S.1 S.2.1 dX6_number_39 (by rw [c_8]; decide) (by rw [c_8]; decide) (by rw [c_8]; rfl) (by decide) ?_
          refine lv_iload_n S.1 S.2.1 dX6_number_387 rfl (lv_at hl 5 rfl) ?_
          refine lv_if_ne (tgt := 395) S.1 S.2.1 dX6_number_388 (by decide) (fun c_9 => ?_) (fun c_9 => ?_)
          · replace h := (if_neg c_9).symm.trans h
            refine lv_lload S.1 S.2.1 dX6_number_395 (lv_at hl 0 rfl) ?_
            refine lv_lload_n S.1 S.2.1 dX6_number_397 rfl (lv_at hl 2 rfl) ?_
            refine va_mmax_long S.1 S.2.1 (S.2.2.1.trans hl.1.symm) S.2.2.2.1 (S.2.2.2.2 _ (List.mem_cons_of_mem _ wm_X6_104)) (S.2.2.2.2 _ (List.mem_cons_of_mem _ wo_static_MathLoose_max_long_x)) (S.2.2.2.2 _ (List.mem_cons_of_mem _ wo_init_Math)) (S.2.2.2.2 _ (List.mem_cons_of_mem _ wo_code_MathLoose_max_long_x)) (Nat.le_of_ble_eq_true rfl) (Nat.le_of_ble_eq_true rfl) (Nat.zero_le _) (Nat.zero_le _) dX6_number_398 ?_
            cases h
            exact gRetL S.1 S.2.1 hr hlk hB dX6_number_401
          · replace h := (if_pos c_9).symm.trans h
            refine lv_lload_n S.1 S.2.1 dX6_number_391 rfl (lv_at hl 2 rfl) ?_
            refine lv_goto (tgt := 401) S.1 S.2.1 dX6_number_392 (by decide) ?_
            cases h
            exact gRetL S.1 S.2.1 hr hlk hB dX6_number_401
        · replace h := (if_neg c_8).symm.trans h
          by_cases c_10 : (getI 1200 (σ_2.2.2.1 15) p0) = 23
          · replace h := (if_pos c_10).symm.trans h
            refine lv_tableIn (off := 363) (tgt := 402) S.1 S.2.1 dX6_number_39 (by rw [c_10]; decide) (by rw [c_10]; decide) (by rw [c_10]; rfl) (by decide) ?_
            refine lv_iload_n S.1 S.2.1 dX6_number_402 rfl (lv_at hl 5 rfl) ?_
            refine lv_if_ne (tgt := 410) S.1 S.2.1 dX6_number_403 (by decide) (fun c_11 => ?_) (fun c_11 => ?_)
            · replace h := (if_neg c_11).symm.trans h
              refine lv_lload S.1 S.2.1 dX6_number_410 (lv_at hl 0 rfl) ?_
              refine lv_lload_n S.1 S.2.1 dX6_number_412 rfl (lv_at hl 2 rfl) ?_
              refine va_mmin_long S.1 S.2.1 (S.2.2.1.trans hl.1.symm) S.2.2.2.1 (S.2.2.2.2 _ (List.mem_cons_of_mem _ wm_X6_110)) (S.2.2.2.2 _ (List.mem_cons_of_mem _ wo_static_MathLoose_min_long_x)) (S.2.2.2.2 _ (List.mem_cons_of_mem _ wo_init_Math)) (S.2.2.2.2 _ (List.mem_cons_of_mem _ wo_code_MathLoose_min_long_x)) (Nat.le_of_ble_eq_true rfl) (Nat.le_of_ble_eq_true rfl) (Nat.zero_le _) (Nat.zero_le _) dX6_number_413 ?_
              cases h
              exact gRetL S.1 S.2.1 hr hlk hB dX6_number_416
            · replace h := (if_pos c_11).symm.trans h
              refine lv_lload_n S.1 S.2.1 dX6_number_406 rfl (lv_at hl 2 rfl) ?_
              refine lv_goto (tgt := 416) S.1 S.2.1 dX6_number_407 (by decide) ?_
              cases h
              exact gRetL S.1 S.2.1 hr hlk hB dX6_number_416
          · replace h := (if_neg c_10).symm.trans h
            by_cases c_12 : (getI 1200 (σ_2.2.2.1 15) p0) = 24
            · replace h := (if_pos c_12).symm.trans h
              refine lv_tableIn (off := 378) (tgt := 417) S.1 S.2.1 dX6_number_39 (by rw [c_12]; decide) (by rw [c_12]; decide) (by rw [c_12]; rfl) (by decide) ?_
              refine lv_lload S.1 S.2.1 dX6_number_417 (lv_at hl 0 rfl) ?_
              refine lv_lload_n S.1 S.2.1 dX6_number_419 rfl (lv_at hl 2 rfl) ?_
              refine lv_ladd S.1 S.2.1 dX6_number_420 ?_
              cases h
              exact gRetL S.1 S.2.1 hr hlk hB dX6_number_421
            · replace h := (if_neg c_12).symm.trans h
              by_cases c_13 : (getI 1200 (σ_2.2.2.1 15) p0) = 25
              · replace h := (if_pos c_13).symm.trans h
                refine lv_tableIn (off := 383) (tgt := 422) S.1 S.2.1 dX6_number_39 (by rw [c_13]; decide) (by rw [c_13]; decide) (by rw [c_13]; rfl) (by decide) ?_
                refine lv_lload S.1 S.2.1 dX6_number_422 (lv_at hl 0 rfl) ?_
                refine lv_lload_n S.1 S.2.1 dX6_number_424 rfl (lv_at hl 2 rfl) ?_
                refine lv_ladd S.1 S.2.1 dX6_number_425 ?_
                cases h
                exact gRetL S.1 S.2.1 hr hlk hB dX6_number_426
              · replace h := (if_neg c_13).symm.trans h
                by_cases c_14 : (getI 1200 (σ_2.2.2.1 15) p0) = 26
                · replace h := (if_pos c_14).symm.trans h
                  refine lv_tableIn (off := 406) (tgt := 445) S.1 S.2.1 dX6_number_39 (by rw [c_14]; decide) (by rw [c_14]; decide) (by rw [c_14]; rfl) (by decide) ?_
                  refine lv_lload_n S.1 S.2.1 dX6_number_445 rfl (lv_at hl 2 rfl) ?_
                  refine lv_lconst (v := 0) S.1 S.2.1 dX6_number_446 (by decide) ?_
                  refine W.lcmp S.1 S.2.1 dX6_number_447 ?_
                  refine lv_if_eq (tgt := 456) S.1 S.2.1 dX6_number_448 (by decide) (fun c_15 => ?_) (fun c_15 => ?_)
                  · replace c_15 := lc_eq.mp c_15
                    replace h := (if_pos c_15).symm.trans h
                    refine lv_lload S.1 S.2.1 dX6_number_456 (lv_at hl 0 rfl) ?_
                    cases h
                    exact gRetL S.1 S.2.1 hr hlk hB dX6_number_458
                  · replace c_15 := (not_congr lc_eq).mp c_15
                    replace h := (if_neg c_15).symm.trans h
                    refine lv_lload S.1 S.2.1 dX6_number_451 (lv_at hl 1 rfl) ?_
                    refine lv_goto (tgt := 458) S.1 S.2.1 dX6_number_453 (by decide) ?_
                    cases h
                    exact gRetL S.1 S.2.1 hr hlk hB dX6_number_458
                · replace h := (if_neg c_14).symm.trans h
                  by_cases c_16 : (getI 1200 (σ_2.2.2.1 15) p0) = 27
                  · replace h := (if_pos c_16).symm.trans h
                    refine lv_tableIn (off := 388) (tgt := 427) S.1 S.2.1 dX6_number_39 (by rw [c_16]; decide) (by rw [c_16]; decide) (by rw [c_16]; rfl) (by decide) ?_
                    refine lv_lload_n S.1 S.2.1 dX6_number_427 rfl (lv_at hl 2 rfl) ?_
                    refine lv_lconst (v := 0) S.1 S.2.1 dX6_number_428 (by decide) ?_
                    refine W.lcmp S.1 S.2.1 dX6_number_429 ?_
                    refine lv_if_eq (tgt := 437) S.1 S.2.1 dX6_number_430 (by decide) (fun c_17 => ?_) (fun c_17 => ?_)
                    · replace c_17 := lc_eq.mp c_17
                      replace h := (if_pos c_17).symm.trans h
                      refine lv_aload_n S.1 S.2.1 dX6_number_437 rfl (lv_at hl 3 rfl) ?_
                      refine lv_lload S.1 S.2.1 dX6_number_438 (lv_at hl 0 rfl) ?_
                      refine lv_iload_n S.1 S.2.1 dX6_number_440 rfl (lv_at hl 5 rfl) ?_
                      obtain ⟨r_18, σ_18, e_18, h⟩ := b2s h
                      refine cCallL S hK cKSc hKS hA (kX6_ageOfLast e_18) (cwX6_113 S.2.2.2.2 (rm := rmX6_ageOfLast) rfl rfl ⟨Nat.le_of_ble_eq_true rfl, Nat.le_of_ble_eq_true rfl⟩) hB 54 rfl rfl rfl hl.1 rfl (lv_room (Nat.le_of_ble_eq_true rfl)) dX6_number_441 ⟨Nat.zero_le _, Nat.zero_le _⟩ (fun H locs hB => ?_)
                      cases h
                      exact gRetL S.1 S.2.1 hr hlk hB dX6_number_444
                    · replace c_17 := (not_congr lc_eq).mp c_17
                      replace h := (if_neg c_17).symm.trans h
                      refine lv_lconst (v := 0) S.1 S.2.1 dX6_number_433 (by decide) ?_
                      refine lv_goto (tgt := 444) S.1 S.2.1 dX6_number_434 (by decide) ?_
                      cases h
                      exact gRetL S.1 S.2.1 hr hlk hB dX6_number_444
                  · replace h := (if_neg c_16).symm.trans h
                    by_cases c_19 : (getI 1200 (σ_2.2.2.1 15) p0) = 28
                    · replace h := (if_pos c_19).symm.trans h
                      refine lv_tableIn (off := 273) (tgt := 312) S.1 S.2.1 dX6_number_39 (by rw [c_19]; decide) (by rw [c_19]; decide) (by rw [c_19]; rfl) (by decide) ?_
                      refine lv_aload_n S.1 S.2.1 dX6_number_312 rfl (lv_at hl 3 rfl) ?_
                      refine tg_54_1 S hK hB (S.2.2.2.2 _ (List.mem_cons_of_mem _ wf_X6_24)) dX6_number_313 ?_
                      refine tgN_44_0 S hK hB (nF hKS 25 rfl) dX6_number_316 ?_
                      refine lv_iload_n S.1 S.2.1 dX6_number_319 rfl (lv_at hl 5 rfl) ?_
                      refine lg_45 (r := (getI 120 (σ_2.2.2.1 46) p1)) S hK cKSc hKS hA hB rfl (cwX6_34 S.2.2.2.2 (rm := { frames := 0, cells := 0, slots := 0, locals := 0 }) rfl rfl ⟨Nat.le_of_ble_eq_true rfl, Nat.le_of_ble_eq_true rfl⟩) hl.1 (lv_room (Nat.le_of_ble_eq_true rfl)) dX6_number_320 ⟨Nat.zero_le _, Nat.zero_le _⟩ (fun H locs hB => ?_)
                      refine lv_i2l (v := ((getI 120 (σ_2.2.2.1 46) p1).toInt64)) S.1 S.2.1 dX6_number_323 rfl ?_
                      cases h
                      exact gRetL S.1 S.2.1 hr hlk hB dX6_number_324
                    · replace h := (if_neg c_19).symm.trans h
                      by_cases c_20 : (getI 1200 (σ_2.2.2.1 15) p0) = 29
                      · replace h := (if_pos c_20).symm.trans h
                        refine lv_tableIn (off := 286) (tgt := 325) S.1 S.2.1 dX6_number_39 (by rw [c_20]; decide) (by rw [c_20]; decide) (by rw [c_20]; rfl) (by decide) ?_
                        refine lv_iload_n S.1 S.2.1 dX6_number_325 rfl (lv_at hl 5 rfl) ?_
                        refine lv_i2l (v := p1.toInt64) S.1 S.2.1 dX6_number_326 rfl ?_
                        cases h
                        exact gRetL S.1 S.2.1 hr hlk hB dX6_number_327
                      · replace h := (if_neg c_20).symm.trans h
                        by_cases c_21 : (getI 1200 (σ_2.2.2.1 15) p0) = 39
                        · replace h := (if_pos c_21).symm.trans h
                          refine lv_tableIn (off := 289) (tgt := 328) S.1 S.2.1 dX6_number_39 (by rw [c_21]; decide) (by rw [c_21]; decide) (by rw [c_21]; rfl) (by decide) ?_
                          refine lv_lload_n S.1 S.2.1 dX6_number_328 rfl (lv_at hl 2 rfl) ?_
                          refine lv_lload S.1 S.2.1 dX6_number_329 (lv_at hl 1 rfl) ?_
                          refine lv_ladd S.1 S.2.1 dX6_number_331 ?_
                          cases h
                          exact gRetL S.1 S.2.1 hr hlk hB dX6_number_332
                        · replace h := (if_neg c_21).symm.trans h
                          by_cases c_22 : (getI 1200 (σ_2.2.2.1 15) p0) = 40
                          · replace h := (if_pos c_22).symm.trans h
                            refine lv_tableIn (off := 294) (tgt := 333) S.1 S.2.1 dX6_number_39 (by rw [c_22]; decide) (by rw [c_22]; decide) (by rw [c_22]; rfl) (by decide) ?_
                            refine lv_lload_n S.1 S.2.1 dX6_number_333 rfl (lv_at hl 2 rfl) ?_
                            refine lv_lload S.1 S.2.1 dX6_number_334 (lv_at hl 1 rfl) ?_
                            refine lv_lsub S.1 S.2.1 dX6_number_336 ?_
                            cases h
                            exact gRetL S.1 S.2.1 hr hlk hB dX6_number_337
                          · replace h := (if_neg c_22).symm.trans h
                            by_cases c_23 : (getI 1200 (σ_2.2.2.1 15) p0) = 41
                            · replace h := (if_pos c_23).symm.trans h
                              refine lv_tableIn (off := 299) (tgt := 338) S.1 S.2.1 dX6_number_39 (by rw [c_23]; decide) (by rw [c_23]; decide) (by rw [c_23]; rfl) (by decide) ?_
                              refine lv_lload_n S.1 S.2.1 dX6_number_338 rfl (lv_at hl 2 rfl) ?_
                              refine lv_lload S.1 S.2.1 dX6_number_339 (lv_at hl 1 rfl) ?_
                              refine lv_lmul S.1 S.2.1 dX6_number_341 ?_
                              cases h
                              exact gRetL S.1 S.2.1 hr hlk hB dX6_number_342
                            · replace h := (if_neg c_23).symm.trans h
                              by_cases c_24 : (getI 1200 (σ_2.2.2.1 15) p0) = 42
                              · replace h := (if_pos c_24).symm.trans h
                                refine lv_tableIn (off := 304) (tgt := 343) S.1 S.2.1 dX6_number_39 (by rw [c_24]; decide) (by rw [c_24]; decide) (by rw [c_24]; rfl) (by decide) ?_
                                refine lv_lload S.1 S.2.1 dX6_number_343 (lv_at hl 1 rfl) ?_
                                refine lv_lconst (v := 0) S.1 S.2.1 dX6_number_345 (by decide) ?_
                                refine W.lcmp S.1 S.2.1 dX6_number_346 ?_
                                refine lv_if_ne (tgt := 354) S.1 S.2.1 dX6_number_347 (by decide) (fun c_25 => ?_) (fun c_25 => ?_)
                                · replace c_25 := (not_congr lc_eq).mp c_25
                                  replace h := (if_neg c_25).symm.trans h
                                  refine lv_lload_n S.1 S.2.1 dX6_number_354 rfl (lv_at hl 2 rfl) ?_
                                  refine lv_lload S.1 S.2.1 dX6_number_355 (lv_at hl 1 rfl) ?_
                                  obtain ⟨z_26, h⟩ := gd h
                                  refine lv_ldiv S.1 S.2.1 dX6_number_357 z_26 ?_
                                  cases h
                                  exact gRetL S.1 S.2.1 hr hlk hB dX6_number_358
                                · replace c_25 := lc_eq.mp c_25
                                  replace h := (if_pos c_25).symm.trans h
                                  refine lv_lconst (v := 0) S.1 S.2.1 dX6_number_350 (by decide) ?_
                                  refine lv_goto (tgt := 358) S.1 S.2.1 dX6_number_351 (by decide) ?_
                                  cases h
                                  exact gRetL S.1 S.2.1 hr hlk hB dX6_number_358
                              · replace h := (if_neg c_24).symm.trans h
                                by_cases c_27 : (getI 1200 (σ_2.2.2.1 15) p0) = 43
                                · replace h := (if_pos c_27).symm.trans h
                                  refine lv_tableIn (off := 320) (tgt := 359) S.1 S.2.1 dX6_number_39 (by rw [c_27]; decide) (by rw [c_27]; decide) (by rw [c_27]; rfl) (by decide) ?_
                                  refine lv_lload S.1 S.2.1 dX6_number_359 (lv_at hl 1 rfl) ?_
                                  refine lv_lconst (v := 0) S.1 S.2.1 dX6_number_361 (by decide) ?_
                                  refine W.lcmp S.1 S.2.1 dX6_number_362 ?_
                                  refine lv_if_ne (tgt := 370) S.1 S.2.1 dX6_number_363 (by decide) (fun c_28 => ?_) (fun c_28 => ?_)
                                  · replace c_28 := (not_congr lc_eq).mp c_28
                                    replace h := (if_neg c_28).symm.trans h
                                    refine lv_lload_n S.1 S.2.1 dX6_number_370 rfl (lv_at hl 2 rfl) ?_
                                    refine lv_lload S.1 S.2.1 dX6_number_371 (lv_at hl 1 rfl) ?_
                                    obtain ⟨z_29, h⟩ := gd h
                                    refine lv_lrem S.1 S.2.1 dX6_number_373 z_29 ?_
                                    cases h
                                    exact gRetL S.1 S.2.1 hr hlk hB dX6_number_374
                                  · replace c_28 := lc_eq.mp c_28
                                    replace h := (if_pos c_28).symm.trans h
                                    refine lv_lconst (v := 0) S.1 S.2.1 dX6_number_366 (by decide) ?_
                                    refine lv_goto (tgt := 374) S.1 S.2.1 dX6_number_367 (by decide) ?_
                                    cases h
                                    exact gRetL S.1 S.2.1 hr hlk hB dX6_number_374
                                · replace h := (if_neg c_27).symm.trans h
                                  by_cases c_30 : (getI 1200 (σ_2.2.2.1 15) p0) = 52
                                  · replace h := (if_pos c_30).symm.trans h
                                    refine lv_tableIn (off := 237) (tgt := 276) S.1 S.2.1 dX6_number_39 (by rw [c_30]; decide) (by rw [c_30]; decide) (by rw [c_30]; rfl) (by decide) ?_
                                    refine lv_aload_n S.1 S.2.1 dX6_number_276 rfl (lv_at hl 3 rfl) ?_
                                    refine tg_54_0 S hK hB (S.2.2.2.2 _ (List.mem_cons_of_mem _ wf_X6_20)) dX6_number_277 ?_
                                    refine tgN_13_2 S hK hB (nF hKS 7 rfl) dX6_number_280 ?_
                                    refine lv_iload_n S.1 S.2.1 dX6_number_283 rfl (lv_at hl 4 rfl) ?_
                                    refine lg_18 (r := (getI 1200 (σ_2.2.2.1 19) p0)) S hK cKSc hKS hA hB rfl (cwX6_34 S.2.2.2.2 (rm := { frames := 0, cells := 0, slots := 0, locals := 0 }) rfl rfl ⟨Nat.le_of_ble_eq_true rfl, Nat.le_of_ble_eq_true rfl⟩) hl.1 (lv_room (Nat.le_of_ble_eq_true rfl)) dX6_number_284 ⟨Nat.zero_le _, Nat.zero_le _⟩ (fun H locs hB => ?_)
                                    refine lv_i2l (v := ((getI 1200 (σ_2.2.2.1 19) p0).toInt64)) S.1 S.2.1 dX6_number_287 rfl ?_
                                    cases h
                                    exact gRetL S.1 S.2.1 hr hlk hB dX6_number_288
                                  · replace h := (if_neg c_30).symm.trans h
                                    by_cases c_31 : (getI 1200 (σ_2.2.2.1 15) p0) = 55
                                    · replace h := (if_pos c_31).symm.trans h
                                      refine lv_tableIn (off := 336) (tgt := 375) S.1 S.2.1 dX6_number_39 (by rw [c_31]; decide) (by rw [c_31]; decide) (by rw [c_31]; rfl) (by decide) ?_
                                      refine lv_lload_n S.1 S.2.1 dX6_number_375 rfl (lv_at hl 2 rfl) ?_
                                      refine lv_lneg S.1 S.2.1 dX6_number_376 ?_
                                      cases h
                                      exact gRetL S.1 S.2.1 hr hlk hB dX6_number_377
                                    · replace h := (if_neg c_31).symm.trans h
                                      refine swT (tgt := 490) (cs := [0, 18, 21, 22, 23, 24, 25, 26, 27, 28, 29, 39, 40, 41, 42, 43, 52, 55]) S.1 S.2.1 dX6_number_39 (List.forall_mem_cons.mpr ⟨lv_neT c_3 (by decide), List.forall_mem_cons.mpr ⟨lv_neT c_4 (by decide), List.forall_mem_cons.mpr ⟨lv_neT c_6 (by decide), List.forall_mem_cons.mpr ⟨lv_neT c_8 (by decide), List.forall_mem_cons.mpr ⟨lv_neT c_10 (by decide), List.forall_mem_cons.mpr ⟨lv_neT c_12 (by decide), List.forall_mem_cons.mpr ⟨lv_neT c_13 (by decide), List.forall_mem_cons.mpr ⟨lv_neT c_14 (by decide), List.forall_mem_cons.mpr ⟨lv_neT c_16 (by decide), List.forall_mem_cons.mpr ⟨lv_neT c_19 (by decide), List.forall_mem_cons.mpr ⟨lv_neT c_20 (by decide), List.forall_mem_cons.mpr ⟨lv_neT c_21 (by decide), List.forall_mem_cons.mpr ⟨lv_neT c_22 (by decide), List.forall_mem_cons.mpr ⟨lv_neT c_23 (by decide), List.forall_mem_cons.mpr ⟨lv_neT c_24 (by decide), List.forall_mem_cons.mpr ⟨lv_neT c_27 (by decide), List.forall_mem_cons.mpr ⟨lv_neT c_30 (by decide), List.forall_mem_cons.mpr ⟨lv_neT c_31 (by decide), List.forall_mem_nil _⟩⟩⟩⟩⟩⟩⟩⟩⟩⟩⟩⟩⟩⟩⟩⟩⟩⟩) (by decide) (by decide) (by decide) ?_
                                      refine lv_lconst (v := 0) S.1 S.2.1 dX6_number_490 (by decide) ?_
                                      cases h
                                      exact gRetL S.1 S.2.1 hr hlk hB dX6_number_491
def FX6_reckon_49 (L : Nat) (k3 : Int32 → Int32 → Int32 → CS → Option (Unit × CS)) (x2 : Int32) (x3 : Int32) (x4 : Int32) (y1 : Int32) (y2 : Int32) (y3 : Int32) (σ1 : CS) : Option (Unit × CS) :=
    k3 x2 x3 (x4 + (1 : Int32)) (tT σ1 2 (putT 1200 (σ1.2.2.2.2 2) y1 y2 y3.toInt64))
def FX6_reckon_3 (L : Nat)  : Nat → Int32 → Int32 → Int32 → CS → Option (Unit × CS)
  | 0, _, _, _, _ => none
  | n+1, x2, x3, x4, σ1 =>
    if x2 ≤ x4 then
      some ((), σ1)
    else
      (FX6_isFormula (getI 1200 (σ1.2.2.1 15) x4)).bind fun r_2 =>
      if r_2 = 0 then
        b2 (FX6_number x4 x3 σ1) fun r_4 σ_4 =>
        (FX6_reckon_3 L n) x2 x3 (x4 + (1 : Int32)) (tT σ_4 2 (putT 1200 (σ_4.2.2.2.2 2) x4 x3 r_4))
      else
        b2 (FX6_holds L x4 x3 σ1) fun r_5 σ_5 =>
        if r_5 = 0 then
          FX6_reckon_49 L (FX6_reckon_3 L n) x2 x3 x4 x4 x3 (0 : Int32) σ_5
        else
          FX6_reckon_49 L (FX6_reckon_3 L n) x2 x3 x4 x4 x3 (1 : Int32) σ_5
def FX6_reckon (L : Nat) (p0 : Int32) (p1 : Int32) (p2 : Int32) (σ : CS) : Option (Unit × CS) :=
  FX6_reckon_3 L L p1 p2 p0 σ
abbrev rmX6_reckon : Room := { frames := 5, cells := 0, slots := 0, locals := 120 }
set_option maxRecDepth 100000 in
set_option maxHeartbeats 4000000 in
theorem kX6_reckon {l : Launch} {D : va_G} {cI cJ cQ : ClassId} {ad : Nat → Nat} {ra : Nat → Nat → Nat} {adK adV tK : Nat → Nat} {L : Nat} {p0 : Int32} {p1 : Int32} {p2 : Int32} {σ σ' : CS} (h : FX6_reckon L p0 p1 p2 σ = some ((), σ')) : gMet l yX6_reckon qX6_reckon rmX6_reckon 0 0 D vwCl [(cI, .int), (cJ, .long), (cQ, .array .long)] (cKS adK adV tK) [.ref (ad 54), .int p0, .int p1, .int p2] (CW cI cJ cQ ad ra σ) (CW cI cJ cQ ad ra σ') none := by
  refine gMet.of (cc := cX6_reckon) (maxL := 5) (ret := none) (by decide) rfl (Nat.le_of_ble_eq_true rfl) ?_
  intro p e s m args below meth c S hr hlk hnm hK hKS hA hB ls hl
  have hl : lv_has ls 5 [(0, .ref (ad 54)), (1, .int p0), (2, .int p1), (3, .int p2)] := hl
  replace S : CallFix p m c cX6_reckon 5 s args (_ :: wsL_law) RX6 := S
  rw [FX6_reckon] at h
  have P49 : ∀ (k3 : Int32 → Int32 → Int32 → CS → Option (Unit × CS)) (hk3 : ∀ (x2 : Int32) (x3 : Int32) (x4 : Int32) (σ1 : CS) (H : Heap) (locs : List Loc) (ls : Array Slot), k3 x2 x3 x4 σ1 = some ((), σ') → gB D vwCl (va_A (CW cI cJ cQ ad ra σ) s.heap.size) s.heap (CW cI cJ cQ ad ra σ1) [] H locs → lv_has ls 5 [(0, .ref (ad 54)), (2, .int x2), (3, .int x3), (4, .int x4)] → W p l e rmX6_reckon s m args below meth c H locs 0 0 (MQ below (gQ D vwCl (CW cI cJ cQ ad ra σ) (CW cI cJ cQ ad ra σ') none s.heap.size) args s 0 0 (va_A (CW cI cJ cQ ad ra σ) s.heap.size)) (F0 m 3 ls [])), ∀ (x2 : Int32) (x3 : Int32) (x4 : Int32) (y1 : Int32) (y2 : Int32) (y3 : Int32) (σ1 : CS) (H : Heap) (locs : List Loc) (ls : Array Slot), FX6_reckon_49 L k3 x2 x3 x4 y1 y2 y3 σ1 = some ((), σ') → gB D vwCl (va_A (CW cI cJ cQ ad ra σ) s.heap.size) s.heap (CW cI cJ cQ ad ra σ1) [] H locs → lv_has ls 5 [(0, .ref (ad 54)), (2, .int x2), (3, .int x3), (4, .int x4)] → W p l e rmX6_reckon s m args below meth c H locs 0 0 (MQ below (gQ D vwCl (CW cI cJ cQ ad ra σ) (CW cI cJ cQ ad ra σ') none s.heap.size) args s 0 0 (va_A (CW cI cJ cQ ad ra σ) s.heap.size)) (F0 m 49 ls [.int y3, .int y2, .int y1, .ref (ad 55)]) := by
    intro k3 hk3 x2 x3 x4 y1 y2 y3 σ1 H locs ls h hB hl
    rw [FX6_reckon_49] at h
    refine lv_i2l (v := y3.toInt64) S.1 S.2.1 dX6_reckon_49 rfl ?_
    refine lv_goto (tgt := 60) S.1 S.2.1 dX6_reckon_50 (by decide) ?_
    refine lp_55 S hK cKSc hKS hA hB (cwX6_52 S.2.2.2.2 (rm := { frames := 0, cells := 0, slots := 0, locals := 0 }) rfl rfl ⟨Nat.le_of_ble_eq_true rfl, Nat.le_of_ble_eq_true rfl⟩) hl.1 (lv_room (Nat.le_of_ble_eq_true rfl)) dX6_reckon_60 ⟨Nat.zero_le _, Nat.zero_le _⟩ (fun H locs hB => ?_)
    refine lv_iinc (v := (x4 + (1 : Int32))) (lv' := [(4, .int (x4 + (1 : Int32))), (0, .ref (ad 54)), (2, .int x2), (3, .int x3)]) S.1 S.2.1 dX6_reckon_63 hl (k := 3) rfl rfl (by decide) rfl (fun ls hl => ?_)
    refine lv_goto (tgt := 3) S.1 S.2.1 dX6_reckon_66 (by decide) ?_
    exact hk3 _ _ _ _ _ _ _ h hB (lv_sub hl [1, 2, 3, 0] rfl)
  have P3 : ∀  (n : Nat), ∀ (x2 : Int32) (x3 : Int32) (x4 : Int32) (σ1 : CS) (H : Heap) (locs : List Loc) (ls : Array Slot), FX6_reckon_3 L n x2 x3 x4 σ1 = some ((), σ') → gB D vwCl (va_A (CW cI cJ cQ ad ra σ) s.heap.size) s.heap (CW cI cJ cQ ad ra σ1) [] H locs → lv_has ls 5 [(0, .ref (ad 54)), (2, .int x2), (3, .int x3), (4, .int x4)] → W p l e rmX6_reckon s m args below meth c H locs 0 0 (MQ below (gQ D vwCl (CW cI cJ cQ ad ra σ) (CW cI cJ cQ ad ra σ') none s.heap.size) args s 0 0 (va_A (CW cI cJ cQ ad ra σ) s.heap.size)) (F0 m 3 ls []) := by
    intro n
    induction n with
    | zero => intro x2 x3 x4 σ1 H locs ls h; simp only [FX6_reckon_3] at h; cases h
    | succ n ih =>
      intro x2 x3 x4 σ1 H locs ls h hB hl
      rw [FX6_reckon_3] at h
      refine lv_iload S.1 S.2.1 dX6_reckon_3 (lv_at hl 3 rfl) ?_
      refine lv_iload_n S.1 S.2.1 dX6_reckon_5 rfl (lv_at hl 1 rfl) ?_
      refine lv_icmp_ge (tgt := 69) S.1 S.2.1 dX6_reckon_6 (by decide) (fun c_1 => ?_) (fun c_1 => ?_)
      · replace h := (if_pos c_1).symm.trans h
        cases h
        exact gRetV S.1 S.2.1 hr hlk hB dX6_reckon_69
      · replace h := (if_neg c_1).symm.trans h
        refine lv_aload_n S.1 S.2.1 dX6_reckon_9 rfl (lv_at hl 0 rfl) ?_
        refine tg_54_2 S hK hB (S.2.2.2.2 _ (List.mem_cons_of_mem _ wf_X6_14)) dX6_reckon_10 ?_
        refine lv_iload S.1 S.2.1 dX6_reckon_13 (lv_at hl 3 rfl) ?_
        refine lv_iload_n S.1 S.2.1 dX6_reckon_15 rfl (lv_at hl 2 rfl) ?_
        refine lv_aload_n S.1 S.2.1 dX6_reckon_16 rfl (lv_at hl 0 rfl) ?_
        refine tg_54_0 S hK hB (S.2.2.2.2 _ (List.mem_cons_of_mem _ wf_X6_20)) dX6_reckon_17 ?_
        refine tgN_13_0 S hK hB (nF hKS 5 rfl) dX6_reckon_20 ?_
        refine lv_iload S.1 S.2.1 dX6_reckon_23 (lv_at hl 3 rfl) ?_
        refine lg_14 (r := (getI 1200 (σ1.2.2.1 15) x4)) S hK cKSc hKS hA hB rfl (cwX6_34 S.2.2.2.2 (rm := { frames := 0, cells := 0, slots := 0, locals := 0 }) rfl rfl ⟨Nat.le_of_ble_eq_true rfl, Nat.le_of_ble_eq_true rfl⟩) hl.1 (lv_room (Nat.le_of_ble_eq_true rfl)) dX6_reckon_25 ⟨Nat.zero_le _, Nat.zero_le _⟩ (fun H locs hB => ?_)
        obtain ⟨r_2, e_2, h⟩ := bnd h
        refine cCallSI S hK cKSc hKS hA (kX6_isFormula e_2) (cwX6_40 S.2.2.2.2 (rm := rmX6_isFormula) rfl rfl ⟨Nat.le_of_ble_eq_true rfl, Nat.le_of_ble_eq_true rfl⟩) hB rfl hl.1 rfl (lv_room (Nat.le_of_ble_eq_true rfl)) dX6_reckon_28 ⟨Nat.zero_le _, Nat.zero_le _⟩ (fun H locs hB => ?_)
        refine lv_if_eq (tgt := 53) S.1 S.2.1 dX6_reckon_31 (by decide) (fun c_3 => ?_) (fun c_3 => ?_)
        · replace h := (if_pos c_3).symm.trans h
          refine lv_aload_n S.1 S.2.1 dX6_reckon_53 rfl (lv_at hl 0 rfl) ?_
          refine lv_iload S.1 S.2.1 dX6_reckon_54 (lv_at hl 3 rfl) ?_
          refine lv_iload_n S.1 S.2.1 dX6_reckon_56 rfl (lv_at hl 2 rfl) ?_
          obtain ⟨r_4, σ_4, e_4, h⟩ := b2s h
          refine cCallL S hK cKSc hKS hA (kX6_number e_4) (cwX6_48 S.2.2.2.2 (rm := rmX6_number) rfl rfl ⟨Nat.le_of_ble_eq_true rfl, Nat.le_of_ble_eq_true rfl⟩) hB 54 rfl rfl rfl hl.1 rfl (lv_room (Nat.le_of_ble_eq_true rfl)) dX6_reckon_57 ⟨Nat.zero_le _, Nat.zero_le _⟩ (fun H locs hB => ?_)
          refine lp_55 S hK cKSc hKS hA hB (cwX6_52 S.2.2.2.2 (rm := { frames := 0, cells := 0, slots := 0, locals := 0 }) rfl rfl ⟨Nat.le_of_ble_eq_true rfl, Nat.le_of_ble_eq_true rfl⟩) hl.1 (lv_room (Nat.le_of_ble_eq_true rfl)) dX6_reckon_60 ⟨Nat.zero_le _, Nat.zero_le _⟩ (fun H locs hB => ?_)
          refine lv_iinc (v := (x4 + (1 : Int32))) (lv' := [(4, .int (x4 + (1 : Int32))), (0, .ref (ad 54)), (2, .int x2), (3, .int x3)]) S.1 S.2.1 dX6_reckon_63 hl (k := 3) rfl rfl (by decide) rfl (fun ls hl => ?_)
          refine lv_goto (tgt := 3) S.1 S.2.1 dX6_reckon_66 (by decide) ?_
          exact ih _ _ _ _ _ _ _ h hB (lv_sub hl [1, 2, 3, 0] rfl)
        · replace h := (if_neg c_3).symm.trans h
          refine lv_aload_n S.1 S.2.1 dX6_reckon_34 rfl (lv_at hl 0 rfl) ?_
          refine lv_iload S.1 S.2.1 dX6_reckon_35 (lv_at hl 3 rfl) ?_
          refine lv_iload_n S.1 S.2.1 dX6_reckon_37 rfl (lv_at hl 2 rfl) ?_
          obtain ⟨r_5, σ_5, e_5, h⟩ := b2s h
          refine cCallI S hK cKSc hKS hA (kX6_holds e_5) (cwX6_44 S.2.2.2.2 (rm := rmX6_holds) rfl rfl ⟨Nat.le_of_ble_eq_true rfl, Nat.le_of_ble_eq_true rfl⟩) hB 54 rfl rfl rfl hl.1 rfl (lv_room (Nat.le_of_ble_eq_true rfl)) dX6_reckon_38 ⟨Nat.zero_le _, Nat.zero_le _⟩ (fun H locs hB => ?_)
          refine lv_if_eq (tgt := 48) S.1 S.2.1 dX6_reckon_41 (by decide) (fun c_6 => ?_) (fun c_6 => ?_)
          · replace h := (if_pos c_6).symm.trans h
            refine lv_iconst (v := (0 : Int32)) S.1 S.2.1 dX6_reckon_48 (by decide) ?_
            exact P49 (FX6_reckon_3 L n) ih _ _ _ _ _ _ _ _ _ _ h hB hl
          · replace h := (if_neg c_6).symm.trans h
            refine lv_iconst (v := (1 : Int32)) S.1 S.2.1 dX6_reckon_44 (by decide) ?_
            refine lv_goto (tgt := 49) S.1 S.2.1 dX6_reckon_45 (by decide) ?_
            exact P49 (FX6_reckon_3 L n) ih _ _ _ _ _ _ _ _ _ _ h hB hl
  refine lv_iload_n S.1 S.2.1 dX6_reckon_0 rfl (lv_at hl 1 rfl) ?_
  refine lv_istore (lv' := [(4, .int p0), (0, .ref (ad 54)), (1, .int p0), (2, .int p1), (3, .int p2)]) S.1 S.2.1 dX6_reckon_1 hl (by decide) rfl (fun ls hl => ?_)
  exact P3  L _ _ _ _ _ _ _ h hB (lv_sub hl [1, 3, 4, 0] rfl)
def FX6_goToPart (L : Nat)  (σ : CS) : Option (Int32 × CS) :=
  if (getI 1200 (σ.2.2.1 15) (σ.1 5403)) = 6 then
    if (σ.1 5404) = 0 then
      some ((0 : Int32), σ)
    else
      some ((1 : Int32), (tI (tI σ 5404 ((σ.1 5404) - (1 : Int32))) 5403 (getI 1200 (σ.2.2.1 19) (σ.1 5403))))
  else if (getI 1200 (σ.2.2.1 15) (σ.1 5403)) = 10 then
    b2 (FX6_firstBreak L (σ.1 5403) (σ.1 5404) σ) fun r_4 σ_4 =>
    some ((1 : Int32), (tI (tI σ_4 5404 r_4) 5403 (getI 1200 (σ.2.2.1 19) (σ.1 5403))))
  else if (getI 1200 (σ.2.2.1 15) (σ.1 5403)) = 12 then
    if (getT 1200 (σ.2.2.2.2 2) (getI 1200 (σ.2.2.1 19) (σ.1 5403)) (σ.1 5404)) = (0 : Int64) then
      some ((1 : Int32), (tI σ 5403 (getI 1200 (σ.2.2.1 19) (σ.1 5403))))
    else
      some ((1 : Int32), (tI σ 5403 (getI 1200 (σ.2.2.1 21) (σ.1 5403))))
  else if (getI 1200 (σ.2.2.1 15) (σ.1 5403)) = 13 then
    some ((1 : Int32), (tI σ 5403 (getI 1200 (σ.2.2.1 21) (σ.1 5403))))
  else if (getI 1200 (σ.2.2.1 15) (σ.1 5403)) = 14 then
    some ((1 : Int32), (tI σ 5403 (getI 1200 (σ.2.2.1 21) (σ.1 5403))))
  else 
    some ((0 : Int32), σ)
abbrev rmX6_goToPart : Room := { frames := 3, cells := 0, slots := 0, locals := 71 }
def FX6_findReason_15 (L : Nat)  : Nat → Int32 → Int32 → CS → Option (Unit × CS)
  | 0, _, _, _ => none
  | n+1, x3, x4, σ1 =>
    if x3 = 0 then
      some ((), σ1)
    else
      if (1200 : Int32) ≤ x4 then
        some ((), σ1)
      else
        b2 (FX6_goToPart L σ1) fun r_3 σ_3 =>
        (FX6_findReason_15 L n) r_3 (x4 + (1 : Int32)) σ_3
def FX6_findReason (L : Nat) (p0 : Int32) (p1 : Int32) (σ : CS) : Option (Unit × CS) :=
  FX6_findReason_15 L L (1 : Int32) (0 : Int32) (tI (tI σ 5403 p0) 5404 p1)
abbrev rmX6_findReason : Room := { frames := 4, cells := 0, slots := 0, locals := 93 }
