def FX4_advance  (σ : CS) : Option (Unit × CS) :=
  if (σ.1 4309) = 0 then
    some ((), (tL (tI (tI (tI σ 4303 ((σ.1 4303) + (1 : Int32))) 4304 (getI 401 (σ.2.2.1 8) ((σ.1 4303) + (1 : Int32)))) 4305 (getI 401 (σ.2.2.1 10) ((σ.1 4303) + (1 : Int32)))) 4306 (getL 401 (σ.2.2.2.1 12) ((σ.1 4303) + (1 : Int32)))))
  else
    some ((), σ)
abbrev rmX4_advance : Room := { frames := 1, cells := 0, slots := 0, locals := 21 }
set_option maxRecDepth 100000 in
set_option maxHeartbeats 4000000 in
theorem kX4_advance {l : Launch} {D : va_G} {cI cJ cQ : ClassId} {ad : Nat → Nat} {ra : Nat → Nat → Nat} {adK adV tK : Nat → Nat}  {σ σ' : CS} (h : FX4_advance  σ = some ((), σ')) : gMet l yX4_advance qX4_advance rmX4_advance 0 0 D vwCl [(cI, .int), (cJ, .long), (cQ, .array .long)] (cKS adK adV tK) [.ref (ad 43)] (CW cI cJ cQ ad ra σ) (CW cI cJ cQ ad ra σ') none := by
  refine gMet.of (cc := cX4_advance) (maxL := 1) (ret := none) (by decide) rfl (Nat.le_of_ble_eq_true rfl) ?_
  intro p e s m args below meth c S hr hlk hnm hK hKS hA hB ls hl
  have hl : lv_has ls 1 [(0, .ref (ad 43))] := hl
  replace S : CallFix p m c cX4_advance 1 s args (_ :: wsL_law) RX4 := S
  rw [FX4_advance] at h
  refine lv_aload_n S.1 S.2.1 dX4_advance_0 rfl (lv_at hl 0 rfl) ?_
  refine tg_43_9 S hK hB (S.2.2.2.2 _ (List.mem_cons_of_mem _ wf_X4_37)) rfl dX4_advance_1 ?_
  refine lv_if_ne (tgt := 71) S.1 S.2.1 dX4_advance_4 (by decide) (fun c_1 => ?_) (fun c_1 => ?_)
  · replace h := (if_neg c_1).symm.trans h
    cases h
    exact gRetV S.1 S.2.1 hr hlk hB dX4_advance_71
  · replace h := (if_pos c_1).symm.trans h
    refine lv_aload_n S.1 S.2.1 dX4_advance_7 rfl (lv_at hl 0 rfl) ?_
    refine lv_dup S.1 S.2.1 dX4_advance_8 rfl ?_
    refine tg_43_3 S hK hB (S.2.2.2.2 _ (List.mem_cons_of_mem _ wf_X4_72)) rfl dX4_advance_9 ?_
    refine lv_iconst (v := (1 : Int32)) S.1 S.2.1 dX4_advance_12 (by decide) ?_
    refine lv_iadd S.1 S.2.1 dX4_advance_13 ?_
    refine tp_43_3 S hK hB (S.2.2.2.2 _ (List.mem_cons_of_mem _ wf_X4_72)) dX4_advance_14 (fun H locs hB => ?_)
    refine lv_aload_n S.1 S.2.1 dX4_advance_17 rfl (lv_at hl 0 rfl) ?_
    refine lv_aload_n S.1 S.2.1 dX4_advance_18 rfl (lv_at hl 0 rfl) ?_
    refine tg_43_0 S hK hB (S.2.2.2.2 _ (List.mem_cons_of_mem _ wf_X4_9)) dX4_advance_19 ?_
    refine tgN_4_2 S hK hB (nF hKS 2 rfl) dX4_advance_22 ?_
    refine lv_aload_n S.1 S.2.1 dX4_advance_25 rfl (lv_at hl 0 rfl) ?_
    refine tg_43_3 (v := ((σ.1 4303) + (1 : Int32))) S hK hB (S.2.2.2.2 _ (List.mem_cons_of_mem _ wf_X4_72)) rfl dX4_advance_26 ?_
    refine lg_7 (r := (getI 401 (σ.2.2.1 8) ((σ.1 4303) + (1 : Int32)))) S hK cKSc hKS hA hB rfl (cwX4_47 S.2.2.2.2 (rm := { frames := 0, cells := 0, slots := 0, locals := 0 }) rfl rfl ⟨Nat.le_of_ble_eq_true rfl, Nat.le_of_ble_eq_true rfl⟩) hl.1 (lv_room (Nat.le_of_ble_eq_true rfl)) dX4_advance_29 ⟨Nat.zero_le _, Nat.zero_le _⟩ (fun H locs hB => ?_)
    refine tp_43_4 S hK hB (S.2.2.2.2 _ (List.mem_cons_of_mem _ wf_X4_34)) dX4_advance_32 (fun H locs hB => ?_)
    refine lv_aload_n S.1 S.2.1 dX4_advance_35 rfl (lv_at hl 0 rfl) ?_
    refine lv_aload_n S.1 S.2.1 dX4_advance_36 rfl (lv_at hl 0 rfl) ?_
    refine tg_43_0 S hK hB (S.2.2.2.2 _ (List.mem_cons_of_mem _ wf_X4_9)) dX4_advance_37 ?_
    refine tgN_4_3 S hK hB (nF hKS 3 rfl) dX4_advance_40 ?_
    refine lv_aload_n S.1 S.2.1 dX4_advance_43 rfl (lv_at hl 0 rfl) ?_
    refine tg_43_3 (v := ((σ.1 4303) + (1 : Int32))) S hK hB (S.2.2.2.2 _ (List.mem_cons_of_mem _ wf_X4_72)) rfl dX4_advance_44 ?_
    refine lg_9 (r := (getI 401 (σ.2.2.1 10) ((σ.1 4303) + (1 : Int32)))) S hK cKSc hKS hA hB rfl (cwX4_47 S.2.2.2.2 (rm := { frames := 0, cells := 0, slots := 0, locals := 0 }) rfl rfl ⟨Nat.le_of_ble_eq_true rfl, Nat.le_of_ble_eq_true rfl⟩) hl.1 (lv_room (Nat.le_of_ble_eq_true rfl)) dX4_advance_47 ⟨Nat.zero_le _, Nat.zero_le _⟩ (fun H locs hB => ?_)
    refine tp_43_5 S hK hB (S.2.2.2.2 _ (List.mem_cons_of_mem _ wf_X4_53)) dX4_advance_50 (fun H locs hB => ?_)
    refine lv_aload_n S.1 S.2.1 dX4_advance_53 rfl (lv_at hl 0 rfl) ?_
    refine lv_aload_n S.1 S.2.1 dX4_advance_54 rfl (lv_at hl 0 rfl) ?_
    refine tg_43_0 S hK hB (S.2.2.2.2 _ (List.mem_cons_of_mem _ wf_X4_9)) dX4_advance_55 ?_
    refine tgN_4_4 S hK hB (nF hKS 4 rfl) dX4_advance_58 ?_
    refine lv_aload_n S.1 S.2.1 dX4_advance_61 rfl (lv_at hl 0 rfl) ?_
    refine tg_43_3 (v := ((σ.1 4303) + (1 : Int32))) S hK hB (S.2.2.2.2 _ (List.mem_cons_of_mem _ wf_X4_72)) rfl dX4_advance_62 ?_
    refine lg_11 (r := (getL 401 (σ.2.2.2.1 12) ((σ.1 4303) + (1 : Int32)))) S hK cKSc hKS hA hB rfl (cwX4_90 S.2.2.2.2 (rm := { frames := 0, cells := 0, slots := 0, locals := 0 }) rfl rfl ⟨Nat.le_of_ble_eq_true rfl, Nat.le_of_ble_eq_true rfl⟩) hl.1 (lv_room (Nat.le_of_ble_eq_true rfl)) dX4_advance_65 ⟨Nat.zero_le _, Nat.zero_le _⟩ (fun H locs hB => ?_)
    refine tp_43_6 S hK hB (S.2.2.2.2 _ (List.mem_cons_of_mem _ wf_X4_95)) dX4_advance_68 (fun H locs hB => ?_)
    cases h
    exact gRetV S.1 S.2.1 hr hlk hB dX4_advance_71
def FX4_fail  (σ : CS) : Option (Unit × CS) :=
  if (σ.1 4309) = 0 then
    some ((), (tI (tI (tI (tI σ 4309 (1 : Int32)) 4307 (1 : Int32)) 4308 (σ.1 4305)) 4304 (54 : Int32)))
  else
    some ((), σ)
abbrev rmX4_fail : Room := { frames := 0, cells := 0, slots := 0, locals := 0 }
set_option maxRecDepth 100000 in
set_option maxHeartbeats 4000000 in
theorem kX4_fail {l : Launch} {D : va_G} {cI cJ cQ : ClassId} {ad : Nat → Nat} {ra : Nat → Nat → Nat} {adK adV tK : Nat → Nat}  {σ σ' : CS} (h : FX4_fail  σ = some ((), σ')) : gMet l yX4_fail qX4_fail rmX4_fail 0 0 D vwCl [(cI, .int), (cJ, .long), (cQ, .array .long)] (cKS adK adV tK) [.ref (ad 43)] (CW cI cJ cQ ad ra σ) (CW cI cJ cQ ad ra σ') none := by
  refine gMet.of (cc := cX4_fail) (maxL := 1) (ret := none) (by decide) rfl (Nat.le_of_ble_eq_true rfl) ?_
  intro p e s m args below meth c S hr hlk hnm hK hKS hA hB ls hl
  have hl : lv_has ls 1 [(0, .ref (ad 43))] := hl
  replace S : CallFix p m c cX4_fail 1 s args (_ :: wsL_law) RX4 := S
  rw [FX4_fail] at h
  refine lv_aload_n S.1 S.2.1 dX4_fail_0 rfl (lv_at hl 0 rfl) ?_
  refine tg_43_9 S hK hB (S.2.2.2.2 _ (List.mem_cons_of_mem _ wf_X4_37)) rfl dX4_fail_1 ?_
  refine lv_if_ne (tgt := 31) S.1 S.2.1 dX4_fail_4 (by decide) (fun c_1 => ?_) (fun c_1 => ?_)
  · replace h := (if_neg c_1).symm.trans h
    cases h
    exact gRetV S.1 S.2.1 hr hlk hB dX4_fail_31
  · replace h := (if_pos c_1).symm.trans h
    refine lv_aload_n S.1 S.2.1 dX4_fail_7 rfl (lv_at hl 0 rfl) ?_
    refine lv_iconst (v := (1 : Int32)) S.1 S.2.1 dX4_fail_8 (by decide) ?_
    refine tp_43_9 S hK hB (S.2.2.2.2 _ (List.mem_cons_of_mem _ wf_X4_37)) rfl rfl dX4_fail_9 (fun H locs hB => ?_)
    refine lv_aload_n S.1 S.2.1 dX4_fail_12 rfl (lv_at hl 0 rfl) ?_
    refine lv_iconst (v := (1 : Int32)) S.1 S.2.1 dX4_fail_13 (by decide) ?_
    refine tp_43_7 S hK hB (S.2.2.2.2 _ (List.mem_cons_of_mem _ wf_X4_69)) dX4_fail_14 (fun H locs hB => ?_)
    refine lv_aload_n S.1 S.2.1 dX4_fail_17 rfl (lv_at hl 0 rfl) ?_
    refine lv_aload_n S.1 S.2.1 dX4_fail_18 rfl (lv_at hl 0 rfl) ?_
    refine tg_43_5 (v := (σ.1 4305)) S hK hB (S.2.2.2.2 _ (List.mem_cons_of_mem _ wf_X4_53)) rfl dX4_fail_19 ?_
    refine tp_43_8 S hK hB (S.2.2.2.2 _ (List.mem_cons_of_mem _ wf_X4_23)) dX4_fail_22 (fun H locs hB => ?_)
    refine lv_aload_n S.1 S.2.1 dX4_fail_25 rfl (lv_at hl 0 rfl) ?_
    refine lv_bipush (v := (54 : Int32)) S.1 S.2.1 dX4_fail_26 (by decide) ?_
    refine tp_43_4 S hK hB (S.2.2.2.2 _ (List.mem_cons_of_mem _ wf_X4_34)) dX4_fail_28 (fun H locs hB => ?_)
    cases h
    exact gRetV S.1 S.2.1 hr hlk hB dX4_fail_31
def FX4_complain (p0 : Int32) (p1 : Int32) (σ : CS) : Option (Unit × CS) :=
  if (σ.1 4307) = 0 then
    some ((), (tI (tI σ 4307 p0) 4308 p1))
  else
    some ((), σ)
abbrev rmX4_complain : Room := { frames := 0, cells := 0, slots := 0, locals := 0 }
set_option maxRecDepth 100000 in
set_option maxHeartbeats 4000000 in
theorem kX4_complain {l : Launch} {D : va_G} {cI cJ cQ : ClassId} {ad : Nat → Nat} {ra : Nat → Nat → Nat} {adK adV tK : Nat → Nat} {p0 : Int32} {p1 : Int32} {σ σ' : CS} (h : FX4_complain p0 p1 σ = some ((), σ')) : gMet l yX4_complain qX4_complain rmX4_complain 0 0 D vwCl [(cI, .int), (cJ, .long), (cQ, .array .long)] (cKS adK adV tK) [.ref (ad 43), .int p0, .int p1] (CW cI cJ cQ ad ra σ) (CW cI cJ cQ ad ra σ') none := by
  refine gMet.of (cc := cX4_complain) (maxL := 3) (ret := none) (by decide) rfl (Nat.le_of_ble_eq_true rfl) ?_
  intro p e s m args below meth c S hr hlk hnm hK hKS hA hB ls hl
  have hl : lv_has ls 3 [(0, .ref (ad 43)), (1, .int p0), (2, .int p1)] := hl
  replace S : CallFix p m c cX4_complain 3 s args (_ :: wsL_law) RX4 := S
  rw [FX4_complain] at h
  refine lv_aload_n S.1 S.2.1 dX4_complain_0 rfl (lv_at hl 0 rfl) ?_
  refine tg_43_7 S hK hB (S.2.2.2.2 _ (List.mem_cons_of_mem _ wf_X4_69)) rfl dX4_complain_1 ?_
  refine lv_if_ne (tgt := 17) S.1 S.2.1 dX4_complain_4 (by decide) (fun c_1 => ?_) (fun c_1 => ?_)
  · replace h := (if_neg c_1).symm.trans h
    cases h
    exact gRetV S.1 S.2.1 hr hlk hB dX4_complain_17
  · replace h := (if_pos c_1).symm.trans h
    refine lv_aload_n S.1 S.2.1 dX4_complain_7 rfl (lv_at hl 0 rfl) ?_
    refine lv_iload_n S.1 S.2.1 dX4_complain_8 rfl (lv_at hl 1 rfl) ?_
    refine tp_43_7 S hK hB (S.2.2.2.2 _ (List.mem_cons_of_mem _ wf_X4_69)) dX4_complain_9 (fun H locs hB => ?_)
    refine lv_aload_n S.1 S.2.1 dX4_complain_12 rfl (lv_at hl 0 rfl) ?_
    refine lv_iload_n S.1 S.2.1 dX4_complain_13 rfl (lv_at hl 2 rfl) ?_
    refine tp_43_8 S hK hB (S.2.2.2.2 _ (List.mem_cons_of_mem _ wf_X4_23)) dX4_complain_14 (fun H locs hB => ?_)
    cases h
    exact gRetV S.1 S.2.1 hr hlk hB dX4_complain_17
def FX4_expect (p0 : Int32) (σ : CS) : Option (Unit × CS) :=
  if (σ.1 4304) = p0 then
    b2 (FX4_advance σ) fun (_ : Unit) σ_3 =>
    some ((), σ_3)
  else
    b2 (FX4_fail σ) fun (_ : Unit) σ_2 =>
    some ((), σ_2)
abbrev rmX4_expect : Room := { frames := 2, cells := 0, slots := 0, locals := 41 }
set_option maxRecDepth 100000 in
set_option maxHeartbeats 4000000 in
theorem kX4_expect {l : Launch} {D : va_G} {cI cJ cQ : ClassId} {ad : Nat → Nat} {ra : Nat → Nat → Nat} {adK adV tK : Nat → Nat} {p0 : Int32} {σ σ' : CS} (h : FX4_expect p0 σ = some ((), σ')) : gMet l yX4_expect qX4_expect rmX4_expect 0 0 D vwCl [(cI, .int), (cJ, .long), (cQ, .array .long)] (cKS adK adV tK) [.ref (ad 43), .int p0] (CW cI cJ cQ ad ra σ) (CW cI cJ cQ ad ra σ') none := by
  refine gMet.of (cc := cX4_expect) (maxL := 2) (ret := none) (by decide) rfl (Nat.le_of_ble_eq_true rfl) ?_
  intro p e s m args below meth c S hr hlk hnm hK hKS hA hB ls hl
  have hl : lv_has ls 2 [(0, .ref (ad 43)), (1, .int p0)] := hl
  replace S : CallFix p m c cX4_expect 2 s args (_ :: wsL_law) RX4 := S
  rw [FX4_expect] at h
  refine lv_aload_n S.1 S.2.1 dX4_expect_0 rfl (lv_at hl 0 rfl) ?_
  refine tg_43_4 S hK hB (S.2.2.2.2 _ (List.mem_cons_of_mem _ wf_X4_34)) rfl dX4_expect_1 ?_
  refine lv_iload_n S.1 S.2.1 dX4_expect_4 rfl (lv_at hl 1 rfl) ?_
  refine lv_icmp_ne (tgt := 15) S.1 S.2.1 dX4_expect_5 (by decide) (fun c_1 => ?_) (fun c_1 => ?_)
  · replace h := (if_neg c_1).symm.trans h
    refine lv_aload_n S.1 S.2.1 dX4_expect_15 rfl (lv_at hl 0 rfl) ?_
    obtain ⟨_, σ_2, e_2, h⟩ := b2s h
    refine cCallV S hK cKSc hKS hA (kX4_fail e_2) (cwX4_63 S.2.2.2.2 (rm := rmX4_fail) rfl rfl ⟨Nat.le_of_ble_eq_true rfl, Nat.le_of_ble_eq_true rfl⟩) hB 43 rfl rfl rfl hl.1 rfl (lv_room (Nat.le_of_ble_eq_true rfl)) dX4_expect_16 ⟨Nat.zero_le _, Nat.zero_le _⟩ (fun H locs hB => ?_)
    cases h
    exact gRetV S.1 S.2.1 hr hlk hB dX4_expect_19
  · replace h := (if_pos c_1).symm.trans h
    refine lv_aload_n S.1 S.2.1 dX4_expect_8 rfl (lv_at hl 0 rfl) ?_
    obtain ⟨_, σ_3, e_3, h⟩ := b2s h
    refine cCallV S hK cKSc hKS hA (kX4_advance e_3) (cwX4_75 S.2.2.2.2 (rm := rmX4_advance) rfl rfl ⟨Nat.le_of_ble_eq_true rfl, Nat.le_of_ble_eq_true rfl⟩) hB 43 rfl rfl rfl hl.1 rfl (lv_room (Nat.le_of_ble_eq_true rfl)) dX4_expect_9 ⟨Nat.zero_le _, Nat.zero_le _⟩ (fun H locs hB => ?_)
    refine lv_goto (tgt := 19) S.1 S.2.1 dX4_expect_12 (by decide) ?_
    cases h
    exact gRetV S.1 S.2.1 hr hlk hB dX4_expect_19
def FX4_deepen (p0 : Int32) (σ : CS) : Option (Unit × CS) :=
  if (10 : Int32) ≤ p0 then
    b2 (FX4_fail σ) fun (_ : Unit) σ_2 =>
    some ((), σ_2)
  else
    b2 (FX4_advance σ) fun (_ : Unit) σ_3 =>
    some ((), σ_3)
abbrev rmX4_deepen : Room := { frames := 2, cells := 0, slots := 0, locals := 41 }
set_option maxRecDepth 100000 in
set_option maxHeartbeats 4000000 in
theorem kX4_deepen {l : Launch} {D : va_G} {cI cJ cQ : ClassId} {ad : Nat → Nat} {ra : Nat → Nat → Nat} {adK adV tK : Nat → Nat} {p0 : Int32} {σ σ' : CS} (h : FX4_deepen p0 σ = some ((), σ')) : gMet l yX4_deepen qX4_deepen rmX4_deepen 0 0 D vwCl [(cI, .int), (cJ, .long), (cQ, .array .long)] (cKS adK adV tK) [.ref (ad 43), .int p0] (CW cI cJ cQ ad ra σ) (CW cI cJ cQ ad ra σ') none := by
  refine gMet.of (cc := cX4_deepen) (maxL := 2) (ret := none) (by decide) rfl (Nat.le_of_ble_eq_true rfl) ?_
  intro p e s m args below meth c S hr hlk hnm hK hKS hA hB ls hl
  have hl : lv_has ls 2 [(0, .ref (ad 43)), (1, .int p0)] := hl
  replace S : CallFix p m c cX4_deepen 2 s args (_ :: wsL_law) RX4 := S
  rw [FX4_deepen] at h
  refine lv_iload_n S.1 S.2.1 dX4_deepen_0 rfl (lv_at hl 1 rfl) ?_
  refine lv_bipush (v := (10 : Int32)) S.1 S.2.1 dX4_deepen_1 (by decide) ?_
  refine lv_icmp_ge (tgt := 13) S.1 S.2.1 dX4_deepen_3 (by decide) (fun c_1 => ?_) (fun c_1 => ?_)
  · replace h := (if_pos c_1).symm.trans h
    refine lv_aload_n S.1 S.2.1 dX4_deepen_13 rfl (lv_at hl 0 rfl) ?_
    obtain ⟨_, σ_2, e_2, h⟩ := b2s h
    refine cCallV S hK cKSc hKS hA (kX4_fail e_2) (cwX4_63 S.2.2.2.2 (rm := rmX4_fail) rfl rfl ⟨Nat.le_of_ble_eq_true rfl, Nat.le_of_ble_eq_true rfl⟩) hB 43 rfl rfl rfl hl.1 rfl (lv_room (Nat.le_of_ble_eq_true rfl)) dX4_deepen_14 ⟨Nat.zero_le _, Nat.zero_le _⟩ (fun H locs hB => ?_)
    cases h
    exact gRetV S.1 S.2.1 hr hlk hB dX4_deepen_17
  · replace h := (if_neg c_1).symm.trans h
    refine lv_aload_n S.1 S.2.1 dX4_deepen_6 rfl (lv_at hl 0 rfl) ?_
    obtain ⟨_, σ_3, e_3, h⟩ := b2s h
    refine cCallV S hK cKSc hKS hA (kX4_advance e_3) (cwX4_75 S.2.2.2.2 (rm := rmX4_advance) rfl rfl ⟨Nat.le_of_ble_eq_true rfl, Nat.le_of_ble_eq_true rfl⟩) hB 43 rfl rfl rfl hl.1 rfl (lv_room (Nat.le_of_ble_eq_true rfl)) dX4_deepen_7 ⟨Nat.zero_le _, Nat.zero_le _⟩ (fun H locs hB => ?_)
    refine lv_goto (tgt := 17) S.1 S.2.1 dX4_deepen_10 (by decide) ?_
    cases h
    exact gRetV S.1 S.2.1 hr hlk hB dX4_deepen_17
def FX4_beginAt (p0 : Int32) (σ : CS) : Option (Unit × CS) :=
  b2 (FX3_beginAt p0 σ) fun (_ : Unit) σ_1 =>
  b2 (FX4_advance (tI (tI (tI (tI σ_1 4307 (0 : Int32)) 4308 (-1 : Int32)) 4309 (0 : Int32)) 4303 (-1 : Int32))) fun (_ : Unit) σ_2 =>
  some ((), σ_2)
abbrev rmX4_beginAt : Room := { frames := 2, cells := 0, slots := 0, locals := 41 }
set_option maxRecDepth 100000 in
set_option maxHeartbeats 4000000 in
theorem kX4_beginAt {l : Launch} {D : va_G} {cI cJ cQ : ClassId} {ad : Nat → Nat} {ra : Nat → Nat → Nat} {adK adV tK : Nat → Nat} {p0 : Int32} {σ σ' : CS} (h : FX4_beginAt p0 σ = some ((), σ')) : gMet l yX4_beginAt qX4_beginAt rmX4_beginAt 0 0 D vwCl [(cI, .int), (cJ, .long), (cQ, .array .long)] (cKS adK adV tK) [.ref (ad 43), .int p0] (CW cI cJ cQ ad ra σ) (CW cI cJ cQ ad ra σ') none := by
  refine gMet.of (cc := cX4_beginAt) (maxL := 2) (ret := none) (by decide) rfl (Nat.le_of_ble_eq_true rfl) ?_
  intro p e s m args below meth c S hr hlk hnm hK hKS hA hB ls hl
  have hl : lv_has ls 2 [(0, .ref (ad 43)), (1, .int p0)] := hl
  replace S : CallFix p m c cX4_beginAt 2 s args (_ :: wsL_law) RX4 := S
  rw [FX4_beginAt] at h
  refine lv_aload_n S.1 S.2.1 dX4_beginAt_0 rfl (lv_at hl 0 rfl) ?_
  refine tg_43_1 S hK hB (S.2.2.2.2 _ (List.mem_cons_of_mem _ wf_X4_15)) dX4_beginAt_1 ?_
  refine lv_iload_n S.1 S.2.1 dX4_beginAt_4 rfl (lv_at hl 1 rfl) ?_
  obtain ⟨_, σ_1, e_1, h⟩ := b2s h
  refine cCallV S hK cKSc hKS hA (kX3_beginAt e_1) (cwX4_66 S.2.2.2.2 (rm := rmX3_beginAt) rfl rfl ⟨Nat.le_of_ble_eq_true rfl, Nat.le_of_ble_eq_true rfl⟩) hB 13 rfl rfl rfl hl.1 rfl (lv_room (Nat.le_of_ble_eq_true rfl)) dX4_beginAt_5 ⟨Nat.zero_le _, Nat.zero_le _⟩ (fun H locs hB => ?_)
  refine lv_aload_n S.1 S.2.1 dX4_beginAt_8 rfl (lv_at hl 0 rfl) ?_
  refine lv_iconst (v := (0 : Int32)) S.1 S.2.1 dX4_beginAt_9 (by decide) ?_
  refine tp_43_7 S hK hB (S.2.2.2.2 _ (List.mem_cons_of_mem _ wf_X4_69)) dX4_beginAt_10 (fun H locs hB => ?_)
  refine lv_aload_n S.1 S.2.1 dX4_beginAt_13 rfl (lv_at hl 0 rfl) ?_
  refine lv_iconst (v := (-1 : Int32)) S.1 S.2.1 dX4_beginAt_14 (by decide) ?_
  refine tp_43_8 S hK hB (S.2.2.2.2 _ (List.mem_cons_of_mem _ wf_X4_23)) dX4_beginAt_15 (fun H locs hB => ?_)
  refine lv_aload_n S.1 S.2.1 dX4_beginAt_18 rfl (lv_at hl 0 rfl) ?_
  refine lv_iconst (v := (0 : Int32)) S.1 S.2.1 dX4_beginAt_19 (by decide) ?_
  refine tp_43_9 S hK hB (S.2.2.2.2 _ (List.mem_cons_of_mem _ wf_X4_37)) rfl rfl dX4_beginAt_20 (fun H locs hB => ?_)
  refine lv_aload_n S.1 S.2.1 dX4_beginAt_23 rfl (lv_at hl 0 rfl) ?_
  refine lv_iconst (v := (-1 : Int32)) S.1 S.2.1 dX4_beginAt_24 (by decide) ?_
  refine tp_43_3 S hK hB (S.2.2.2.2 _ (List.mem_cons_of_mem _ wf_X4_72)) dX4_beginAt_25 (fun H locs hB => ?_)
  refine lv_aload_n S.1 S.2.1 dX4_beginAt_28 rfl (lv_at hl 0 rfl) ?_
  obtain ⟨_, σ_2, e_2, h⟩ := b2s h
  refine cCallV S hK cKSc hKS hA (kX4_advance e_2) (cwX4_75 S.2.2.2.2 (rm := rmX4_advance) rfl rfl ⟨Nat.le_of_ble_eq_true rfl, Nat.le_of_ble_eq_true rfl⟩) hB 43 rfl rfl rfl hl.1 rfl (lv_room (Nat.le_of_ble_eq_true rfl)) dX4_beginAt_29 ⟨Nat.zero_le _, Nat.zero_le _⟩ (fun H locs hB => ?_)
  cases h
  exact gRetV S.1 S.2.1 hr hlk hB dX4_beginAt_32
def FX4_readNewName_33 (L : Nat)   (σ1 : CS) : Option (Unit × CS) :=
    b2 (FX4_expect (51 : Int32) σ1) fun (_ : Unit) σ_2 =>
    some ((), σ_2)
def FX4_readNewName (L : Nat)  (σ : CS) : Option (Unit × CS) :=
  if (σ.1 4304) = (51 : Int32) then
    b2 (FX5_find L (σ.2.1 4306) σ) fun r_3 σ_3 =>
    if r_3 = (-1 : Int32) then
      FX4_readNewName_33 L σ_3
    else
      b2 (FX4_complain (3 : Int32) (σ_3.1 4305) σ_3) fun (_ : Unit) σ_5 =>
      FX4_readNewName_33 L σ_5
  else
    FX4_readNewName_33 L σ
abbrev rmX4_readNewName : Room := { frames := 3, cells := 0, slots := 0, locals := 62 }
set_option maxRecDepth 100000 in
set_option maxHeartbeats 4000000 in
theorem kX4_readNewName {l : Launch} {D : va_G} {cI cJ cQ : ClassId} {ad : Nat → Nat} {ra : Nat → Nat → Nat} {adK adV tK : Nat → Nat} {L : Nat}  {σ σ' : CS} (h : FX4_readNewName L  σ = some ((), σ')) : gMet l yX4_readNewName qX4_readNewName rmX4_readNewName 0 0 D vwCl [(cI, .int), (cJ, .long), (cQ, .array .long)] (cKS adK adV tK) [.ref (ad 43)] (CW cI cJ cQ ad ra σ) (CW cI cJ cQ ad ra σ') none := by
  refine gMet.of (cc := cX4_readNewName) (maxL := 1) (ret := none) (by decide) rfl (Nat.le_of_ble_eq_true rfl) ?_
  intro p e s m args below meth c S hr hlk hnm hK hKS hA hB ls hl
  have hl : lv_has ls 1 [(0, .ref (ad 43))] := hl
  replace S : CallFix p m c cX4_readNewName 1 s args (_ :: wsL_law) RX4 := S
  rw [FX4_readNewName] at h
  have P33 : ∀  (σ1 : CS) (H : Heap) (locs : List Loc) (ls : Array Slot), FX4_readNewName_33 L  σ1 = some ((), σ') → gB D vwCl (va_A (CW cI cJ cQ ad ra σ) s.heap.size) s.heap (CW cI cJ cQ ad ra σ1) [] H locs → lv_has ls 1 [(0, .ref (ad 43))] → W p l e rmX4_readNewName s m args below meth c H locs 0 0 (MQ below (gQ D vwCl (CW cI cJ cQ ad ra σ) (CW cI cJ cQ ad ra σ') none s.heap.size) args s 0 0 (va_A (CW cI cJ cQ ad ra σ) s.heap.size)) (F0 m 33 ls []) := by
    intro   σ1 H locs ls h hB hl
    rw [FX4_readNewName_33] at h
    refine lv_aload_n S.1 S.2.1 dX4_readNewName_33 rfl (lv_at hl 0 rfl) ?_
    refine lv_bipush (v := (51 : Int32)) S.1 S.2.1 dX4_readNewName_34 (by decide) ?_
    obtain ⟨_, σ_2, e_2, h⟩ := b2s h
    refine cCallV S hK cKSc hKS hA (kX4_expect e_2) (cwX4_106 S.2.2.2.2 (rm := rmX4_expect) rfl rfl ⟨Nat.le_of_ble_eq_true rfl, Nat.le_of_ble_eq_true rfl⟩) hB 43 rfl rfl rfl hl.1 rfl (lv_room (Nat.le_of_ble_eq_true rfl)) dX4_readNewName_36 ⟨Nat.zero_le _, Nat.zero_le _⟩ (fun H locs hB => ?_)
    cases h
    exact gRetV S.1 S.2.1 hr hlk hB dX4_readNewName_39
  refine lv_aload_n S.1 S.2.1 dX4_readNewName_0 rfl (lv_at hl 0 rfl) ?_
  refine tg_43_4 S hK hB (S.2.2.2.2 _ (List.mem_cons_of_mem _ wf_X4_34)) rfl dX4_readNewName_1 ?_
  refine lv_bipush (v := (51 : Int32)) S.1 S.2.1 dX4_readNewName_4 (by decide) ?_
  refine lv_icmp_ne (tgt := 33) S.1 S.2.1 dX4_readNewName_6 (by decide) (fun c_1 => ?_) (fun c_1 => ?_)
  · replace h := (if_neg c_1).symm.trans h
    exact P33  _ _ _ _ h hB hl
  · replace h := (if_pos c_1).symm.trans h
    refine lv_aload_n S.1 S.2.1 dX4_readNewName_9 rfl (lv_at hl 0 rfl) ?_
    refine tg_43_2 S hK hB (S.2.2.2.2 _ (List.mem_cons_of_mem _ wf_X4_19)) dX4_readNewName_10 ?_
    refine lv_aload_n S.1 S.2.1 dX4_readNewName_13 rfl (lv_at hl 0 rfl) ?_
    refine tg_43_6 S hK hB (S.2.2.2.2 _ (List.mem_cons_of_mem _ wf_X4_95)) rfl dX4_readNewName_14 ?_
    obtain ⟨r_3, σ_3, e_3, h⟩ := b2s h
    refine cCallI S hK cKSc hKS hA (kX5_find e_3) (cwX4_123 S.2.2.2.2 (rm := rmX5_find) rfl rfl ⟨Nat.le_of_ble_eq_true rfl, Nat.le_of_ble_eq_true rfl⟩) hB 28 rfl rfl rfl hl.1 rfl (lv_room (Nat.le_of_ble_eq_true rfl)) dX4_readNewName_17 ⟨Nat.zero_le _, Nat.zero_le _⟩ (fun H locs hB => ?_)
    refine lv_iconst (v := (-1 : Int32)) S.1 S.2.1 dX4_readNewName_20 (by decide) ?_
    refine lv_icmp_eq (tgt := 33) S.1 S.2.1 dX4_readNewName_21 (by decide) (fun c_4 => ?_) (fun c_4 => ?_)
    · replace h := (if_pos c_4).symm.trans h
      exact P33  _ _ _ _ h hB hl
    · replace h := (if_neg c_4).symm.trans h
      refine lv_aload_n S.1 S.2.1 dX4_readNewName_24 rfl (lv_at hl 0 rfl) ?_
      refine lv_iconst (v := (3 : Int32)) S.1 S.2.1 dX4_readNewName_25 (by decide) ?_
      refine lv_aload_n S.1 S.2.1 dX4_readNewName_26 rfl (lv_at hl 0 rfl) ?_
      refine tg_43_5 S hK hB (S.2.2.2.2 _ (List.mem_cons_of_mem _ wf_X4_53)) rfl dX4_readNewName_27 ?_
      obtain ⟨_, σ_5, e_5, h⟩ := b2s h
      refine cCallV S hK cKSc hKS hA (kX4_complain e_5) (cwX4_56 S.2.2.2.2 (rm := rmX4_complain) rfl rfl ⟨Nat.le_of_ble_eq_true rfl, Nat.le_of_ble_eq_true rfl⟩) hB 43 rfl rfl rfl hl.1 rfl (lv_room (Nat.le_of_ble_eq_true rfl)) dX4_readNewName_30 ⟨Nat.zero_le _, Nat.zero_le _⟩ (fun H locs hB => ?_)
      exact P33  _ _ _ _ h hB hl
def FX4_readFirstValue_59  (x1 : Int32) (y1 : Int32) (y2 : Int64) (σ1 : CS) : Option (Int32 × CS) :=
    b2 (FX4_expect (52 : Int32) (tB σ1 40 (putL 8 (σ1.2.2.2.1 40) y1 y2))) fun (_ : Unit) σ_4 =>
    some (x1, σ_4)
def FX4_readFirstValue_35  (x1 : Int32) (x2 : Int32) (σ1 : CS) : Option (Int32 × CS) :=
    if x2 = 0 then
      FX4_readFirstValue_59 x1 x1 (σ1.2.1 4306) σ1
    else
      FX4_readFirstValue_59 x1 x1 (-(σ1.2.1 4306)) σ1
def FX4_readFirstValue_26  (x1 : Int32) (y0 : Int32) (σ1 : CS) : Option (Int32 × CS) :=
    if y0 = 0 then
      FX4_readFirstValue_35 x1 y0 σ1
    else
      b2 (FX4_advance σ1) fun (_ : Unit) σ_5 =>
      FX4_readFirstValue_35 x1 y0 σ_5
def FX4_readFirstValue  (σ : CS) : Option (Int32 × CS) :=
  if (σ.1 4304) = (40 : Int32) then
    FX4_readFirstValue_26 (getI 4 (σ.2.2.1 36) (0 : Int32)) (1 : Int32) σ
  else
    FX4_readFirstValue_26 (getI 4 (σ.2.2.1 36) (0 : Int32)) (0 : Int32) σ
abbrev rmX4_readFirstValue : Room := { frames := 3, cells := 0, slots := 0, locals := 62 }
set_option maxRecDepth 100000 in
set_option maxHeartbeats 4000000 in
theorem kX4_readFirstValue {l : Launch} {D : va_G} {cI cJ cQ : ClassId} {ad : Nat → Nat} {ra : Nat → Nat → Nat} {adK adV tK : Nat → Nat}  {σ σ' : CS} {r : Int32} (h : FX4_readFirstValue  σ = some (r, σ')) : gMet l yX4_readFirstValue qX4_readFirstValue rmX4_readFirstValue 0 0 D vwCl [(cI, .int), (cJ, .long), (cQ, .array .long)] (cKS adK adV tK) [.ref (ad 43)] (CW cI cJ cQ ad ra σ) (CW cI cJ cQ ad ra σ') (some (.int r)) := by
  refine gMet.of (cc := cX4_readFirstValue) (maxL := 3) (ret := (some .int)) (by decide) rfl (Nat.le_of_ble_eq_true rfl) ?_
  intro p e s m args below meth c S hr hlk hnm hK hKS hA hB ls hl
  have hl : lv_has ls 3 [(0, .ref (ad 43))] := hl
  replace S : CallFix p m c cX4_readFirstValue 3 s args (_ :: wsL_law) RX4 := S
  rw [FX4_readFirstValue] at h
  have P59 : ∀ (x1 : Int32) (y1 : Int32) (y2 : Int64) (σ1 : CS) (H : Heap) (locs : List Loc) (ls : Array Slot), FX4_readFirstValue_59 x1 y1 y2 σ1 = some (r, σ') → gB D vwCl (va_A (CW cI cJ cQ ad ra σ) s.heap.size) s.heap (CW cI cJ cQ ad ra σ1) [] H locs → lv_has ls 3 [(0, .ref (ad 43)), (1, .int x1)] → W p l e rmX4_readFirstValue s m args below meth c H locs 0 0 (MQ below (gQ D vwCl (CW cI cJ cQ ad ra σ) (CW cI cJ cQ ad ra σ') (some (.int r)) s.heap.size) args s 0 0 (va_A (CW cI cJ cQ ad ra σ) s.heap.size)) (F0 m 59 ls [.long y2, .int y1, .ref (ad 39)]) := by
    intro  x1 y1 y2 σ1 H locs ls h hB hl
    rw [FX4_readFirstValue_59] at h
    refine lp_39 S hK cKSc hKS hA hB (cwX4_130 S.2.2.2.2 (rm := { frames := 0, cells := 0, slots := 0, locals := 0 }) rfl rfl ⟨Nat.le_of_ble_eq_true rfl, Nat.le_of_ble_eq_true rfl⟩) hl.1 (lv_room (Nat.le_of_ble_eq_true rfl)) dX4_readFirstValue_59 ⟨Nat.zero_le _, Nat.zero_le _⟩ (fun H locs hB => ?_)
    refine lv_aload_n S.1 S.2.1 dX4_readFirstValue_62 rfl (lv_at hl 0 rfl) ?_
    refine lv_bipush (v := (52 : Int32)) S.1 S.2.1 dX4_readFirstValue_63 (by decide) ?_
    obtain ⟨_, σ_4, e_4, h⟩ := b2s h
    refine cCallV S hK cKSc hKS hA (kX4_expect e_4) (cwX4_106 S.2.2.2.2 (rm := rmX4_expect) rfl rfl ⟨Nat.le_of_ble_eq_true rfl, Nat.le_of_ble_eq_true rfl⟩) hB 43 rfl rfl rfl hl.1 rfl (lv_room (Nat.le_of_ble_eq_true rfl)) dX4_readFirstValue_65 ⟨Nat.zero_le _, Nat.zero_le _⟩ (fun H locs hB => ?_)
    refine lv_iload_n S.1 S.2.1 dX4_readFirstValue_68 rfl (lv_at hl 1 rfl) ?_
    cases h
    exact gRetI S.1 S.2.1 hr hlk hB dX4_readFirstValue_69
  have P35 : ∀ (x1 : Int32) (x2 : Int32) (σ1 : CS) (H : Heap) (locs : List Loc) (ls : Array Slot), FX4_readFirstValue_35 x1 x2 σ1 = some (r, σ') → gB D vwCl (va_A (CW cI cJ cQ ad ra σ) s.heap.size) s.heap (CW cI cJ cQ ad ra σ1) [] H locs → lv_has ls 3 [(0, .ref (ad 43)), (1, .int x1), (2, .int x2)] → W p l e rmX4_readFirstValue s m args below meth c H locs 0 0 (MQ below (gQ D vwCl (CW cI cJ cQ ad ra σ) (CW cI cJ cQ ad ra σ') (some (.int r)) s.heap.size) args s 0 0 (va_A (CW cI cJ cQ ad ra σ) s.heap.size)) (F0 m 35 ls []) := by
    intro  x1 x2 σ1 H locs ls h hB hl
    rw [FX4_readFirstValue_35] at h
    refine lv_aload_n S.1 S.2.1 dX4_readFirstValue_35 rfl (lv_at hl 0 rfl) ?_
    refine tg_43_2 S hK hB (S.2.2.2.2 _ (List.mem_cons_of_mem _ wf_X4_19)) dX4_readFirstValue_36 ?_
    refine tgN_28_5 S hK hB (nF hKS 17 rfl) dX4_readFirstValue_39 ?_
    refine lv_iload_n S.1 S.2.1 dX4_readFirstValue_42 rfl (lv_at hl 1 rfl) ?_
    refine lv_iload_n S.1 S.2.1 dX4_readFirstValue_43 rfl (lv_at hl 2 rfl) ?_
    refine lv_if_eq (tgt := 55) S.1 S.2.1 dX4_readFirstValue_44 (by decide) (fun c_3 => ?_) (fun c_3 => ?_)
    · replace h := (if_pos c_3).symm.trans h
      refine lv_aload_n S.1 S.2.1 dX4_readFirstValue_55 rfl (lv_at hl 0 rfl) ?_
      refine tg_43_6 S hK hB (S.2.2.2.2 _ (List.mem_cons_of_mem _ wf_X4_95)) rfl dX4_readFirstValue_56 ?_
      exact P59  _ _ _ _ _ _ _ h hB (lv_sub hl [0, 1] rfl)
    · replace h := (if_neg c_3).symm.trans h
      refine lv_aload_n S.1 S.2.1 dX4_readFirstValue_47 rfl (lv_at hl 0 rfl) ?_
      refine tg_43_6 S hK hB (S.2.2.2.2 _ (List.mem_cons_of_mem _ wf_X4_95)) rfl dX4_readFirstValue_48 ?_
      refine lv_lneg S.1 S.2.1 dX4_readFirstValue_51 ?_
      refine lv_goto (tgt := 59) S.1 S.2.1 dX4_readFirstValue_52 (by decide) ?_
      exact P59  _ _ _ _ _ _ _ h hB (lv_sub hl [0, 1] rfl)
  have P26 : ∀ (x1 : Int32) (y0 : Int32) (σ1 : CS) (H : Heap) (locs : List Loc) (ls : Array Slot), FX4_readFirstValue_26 x1 y0 σ1 = some (r, σ') → gB D vwCl (va_A (CW cI cJ cQ ad ra σ) s.heap.size) s.heap (CW cI cJ cQ ad ra σ1) [] H locs → lv_has ls 3 [(0, .ref (ad 43)), (1, .int x1)] → W p l e rmX4_readFirstValue s m args below meth c H locs 0 0 (MQ below (gQ D vwCl (CW cI cJ cQ ad ra σ) (CW cI cJ cQ ad ra σ') (some (.int r)) s.heap.size) args s 0 0 (va_A (CW cI cJ cQ ad ra σ) s.heap.size)) (F0 m 26 ls [.int y0]) := by
    intro  x1 y0 σ1 H locs ls h hB hl
    rw [FX4_readFirstValue_26] at h
    refine lv_istore_n (lv' := [(2, .int y0), (0, .ref (ad 43)), (1, .int x1)]) S.1 S.2.1 dX4_readFirstValue_26 rfl hl (by decide) rfl (fun ls hl => ?_)
    refine lv_iload_n S.1 S.2.1 dX4_readFirstValue_27 rfl (lv_at hl 0 rfl) ?_
    refine lv_if_eq (tgt := 35) S.1 S.2.1 dX4_readFirstValue_28 (by decide) (fun c_2 => ?_) (fun c_2 => ?_)
    · replace h := (if_pos c_2).symm.trans h
      exact P35  _ _ _ _ _ _ h hB (lv_sub hl [1, 2, 0] rfl)
    · replace h := (if_neg c_2).symm.trans h
      refine lv_aload_n S.1 S.2.1 dX4_readFirstValue_31 rfl (lv_at hl 1 rfl) ?_
      obtain ⟨_, σ_5, e_5, h⟩ := b2s h
      refine cCallV S hK cKSc hKS hA (kX4_advance e_5) (cwX4_75 S.2.2.2.2 (rm := rmX4_advance) rfl rfl ⟨Nat.le_of_ble_eq_true rfl, Nat.le_of_ble_eq_true rfl⟩) hB 43 rfl rfl rfl hl.1 rfl (lv_room (Nat.le_of_ble_eq_true rfl)) dX4_readFirstValue_32 ⟨Nat.zero_le _, Nat.zero_le _⟩ (fun H locs hB => ?_)
      exact P35  _ _ _ _ _ _ h hB (lv_sub hl [1, 2, 0] rfl)
  refine lv_aload_n S.1 S.2.1 dX4_readFirstValue_0 rfl (lv_at hl 0 rfl) ?_
  refine tg_43_2 S hK hB (S.2.2.2.2 _ (List.mem_cons_of_mem _ wf_X4_19)) dX4_readFirstValue_1 ?_
  refine tgN_28_3 S hK hB (nF hKS 15 rfl) dX4_readFirstValue_4 ?_
  refine lv_iconst (v := (0 : Int32)) S.1 S.2.1 dX4_readFirstValue_7 (by decide) ?_
  refine lg_35 (r := (getI 4 (σ.2.2.1 36) (0 : Int32))) S hK cKSc hKS hA hB rfl (cwX4_47 S.2.2.2.2 (rm := { frames := 0, cells := 0, slots := 0, locals := 0 }) rfl rfl ⟨Nat.le_of_ble_eq_true rfl, Nat.le_of_ble_eq_true rfl⟩) hl.1 (lv_room (Nat.le_of_ble_eq_true rfl)) dX4_readFirstValue_8 ⟨Nat.zero_le _, Nat.zero_le _⟩ (fun H locs hB => ?_)
  refine lv_istore_n (lv' := [(1, .int (getI 4 (σ.2.2.1 36) (0 : Int32))), (0, .ref (ad 43))]) S.1 S.2.1 dX4_readFirstValue_11 rfl hl (by decide) rfl (fun ls hl => ?_)
  refine lv_aload_n S.1 S.2.1 dX4_readFirstValue_12 rfl (lv_at hl 1 rfl) ?_
  refine tg_43_4 S hK hB (S.2.2.2.2 _ (List.mem_cons_of_mem _ wf_X4_34)) rfl dX4_readFirstValue_13 ?_
  refine lv_bipush (v := (40 : Int32)) S.1 S.2.1 dX4_readFirstValue_16 (by decide) ?_
  refine lv_icmp_ne (tgt := 25) S.1 S.2.1 dX4_readFirstValue_18 (by decide) (fun c_1 => ?_) (fun c_1 => ?_)
  · replace h := (if_neg c_1).symm.trans h
    refine lv_iconst (v := (0 : Int32)) S.1 S.2.1 dX4_readFirstValue_25 (by decide) ?_
    exact P26  _ _ _ _ _ _ h hB (lv_sub hl [1, 0] rfl)
  · replace h := (if_pos c_1).symm.trans h
    refine lv_iconst (v := (1 : Int32)) S.1 S.2.1 dX4_readFirstValue_21 (by decide) ?_
    refine lv_goto (tgt := 26) S.1 S.2.1 dX4_readFirstValue_22 (by decide) ?_
    exact P26  _ _ _ _ _ _ h hB (lv_sub hl [1, 0] rfl)
def FX4_readLevel_50  (x1 : Int32) (σ1 : CS) : Option (Unit × CS) :=
    some ((), (tA σ1 42 (putI 12 (σ1.2.2.1 42) (getI 4 (σ1.2.2.1 36) (3 : Int32)) x1)))
def FX4_readLevel_44  (x1 : Int32) (σ1 : CS) : Option (Unit × CS) :=
    b2 (FX4_expect (52 : Int32) σ1) fun (_ : Unit) σ_4 =>
    FX4_readLevel_50 x1 σ_4
def FX4_readLevel  (σ : CS) : Option (Unit × CS) :=
  if (σ.1 4304) = (4 : Int32) then
    b2 (FX4_advance σ) fun (_ : Unit) σ_2 =>
    if (σ_2.1 4304) = (52 : Int32) then
      if ((σ_2.2.1 4306).toInt32) ≤ (9 : Int32) then
        FX4_readLevel_44 ((σ_2.2.1 4306).toInt32) σ_2
      else
        b2 (FX4_complain (5 : Int32) (σ_2.1 4305) σ_2) fun (_ : Unit) σ_6 =>
        FX4_readLevel_44 ((σ_2.2.1 4306).toInt32) σ_6
    else
      FX4_readLevel_44 ((σ_2.2.1 4306).toInt32) σ_2
  else
    FX4_readLevel_50 (5 : Int32) σ
abbrev rmX4_readLevel : Room := { frames := 3, cells := 0, slots := 0, locals := 62 }
set_option maxRecDepth 100000 in
set_option maxHeartbeats 4000000 in
theorem kX4_readLevel {l : Launch} {D : va_G} {cI cJ cQ : ClassId} {ad : Nat → Nat} {ra : Nat → Nat → Nat} {adK adV tK : Nat → Nat}  {σ σ' : CS} (h : FX4_readLevel  σ = some ((), σ')) : gMet l yX4_readLevel qX4_readLevel rmX4_readLevel 0 0 D vwCl [(cI, .int), (cJ, .long), (cQ, .array .long)] (cKS adK adV tK) [.ref (ad 43)] (CW cI cJ cQ ad ra σ) (CW cI cJ cQ ad ra σ') none := by
  refine gMet.of (cc := cX4_readLevel) (maxL := 2) (ret := none) (by decide) rfl (Nat.le_of_ble_eq_true rfl) ?_
  intro p e s m args below meth c S hr hlk hnm hK hKS hA hB ls hl
  have hl : lv_has ls 2 [(0, .ref (ad 43))] := hl
  replace S : CallFix p m c cX4_readLevel 2 s args (_ :: wsL_law) RX4 := S
  rw [FX4_readLevel] at h
  have P50 : ∀ (x1 : Int32) (σ1 : CS) (H : Heap) (locs : List Loc) (ls : Array Slot), FX4_readLevel_50 x1 σ1 = some ((), σ') → gB D vwCl (va_A (CW cI cJ cQ ad ra σ) s.heap.size) s.heap (CW cI cJ cQ ad ra σ1) [] H locs → lv_has ls 2 [(0, .ref (ad 43)), (1, .int x1)] → W p l e rmX4_readLevel s m args below meth c H locs 0 0 (MQ below (gQ D vwCl (CW cI cJ cQ ad ra σ) (CW cI cJ cQ ad ra σ') none s.heap.size) args s 0 0 (va_A (CW cI cJ cQ ad ra σ) s.heap.size)) (F0 m 50 ls []) := by
    intro  x1 σ1 H locs ls h hB hl
    rw [FX4_readLevel_50] at h
    refine lv_aload_n S.1 S.2.1 dX4_readLevel_50 rfl (lv_at hl 0 rfl) ?_
    refine tg_43_2 S hK hB (S.2.2.2.2 _ (List.mem_cons_of_mem _ wf_X4_19)) dX4_readLevel_51 ?_
    refine tgN_28_6 S hK hB (nF hKS 19 rfl) dX4_readLevel_54 ?_
    refine lv_aload_n S.1 S.2.1 dX4_readLevel_57 rfl (lv_at hl 0 rfl) ?_
    refine tg_43_2 S hK hB (S.2.2.2.2 _ (List.mem_cons_of_mem _ wf_X4_19)) dX4_readLevel_58 ?_
    refine tgN_28_3 S hK hB (nF hKS 15 rfl) dX4_readLevel_61 ?_
    refine lv_iconst (v := (3 : Int32)) S.1 S.2.1 dX4_readLevel_64 (by decide) ?_
    refine lg_35 (r := (getI 4 (σ1.2.2.1 36) (3 : Int32))) S hK cKSc hKS hA hB rfl (cwX4_47 S.2.2.2.2 (rm := { frames := 0, cells := 0, slots := 0, locals := 0 }) rfl rfl ⟨Nat.le_of_ble_eq_true rfl, Nat.le_of_ble_eq_true rfl⟩) hl.1 (lv_room (Nat.le_of_ble_eq_true rfl)) dX4_readLevel_65 ⟨Nat.zero_le _, Nat.zero_le _⟩ (fun H locs hB => ?_)
    refine lv_iload_n S.1 S.2.1 dX4_readLevel_68 rfl (lv_at hl 1 rfl) ?_
    refine lp_41 S hK cKSc hKS hA hB (cwX4_137 S.2.2.2.2 (rm := { frames := 0, cells := 0, slots := 0, locals := 0 }) rfl rfl ⟨Nat.le_of_ble_eq_true rfl, Nat.le_of_ble_eq_true rfl⟩) hl.1 (lv_room (Nat.le_of_ble_eq_true rfl)) dX4_readLevel_69 ⟨Nat.zero_le _, Nat.zero_le _⟩ (fun H locs hB => ?_)
    cases h
    exact gRetV S.1 S.2.1 hr hlk hB dX4_readLevel_72
  have P44 : ∀ (x1 : Int32) (σ1 : CS) (H : Heap) (locs : List Loc) (ls : Array Slot), FX4_readLevel_44 x1 σ1 = some ((), σ') → gB D vwCl (va_A (CW cI cJ cQ ad ra σ) s.heap.size) s.heap (CW cI cJ cQ ad ra σ1) [] H locs → lv_has ls 2 [(0, .ref (ad 43)), (1, .int x1)] → W p l e rmX4_readLevel s m args below meth c H locs 0 0 (MQ below (gQ D vwCl (CW cI cJ cQ ad ra σ) (CW cI cJ cQ ad ra σ') none s.heap.size) args s 0 0 (va_A (CW cI cJ cQ ad ra σ) s.heap.size)) (F0 m 44 ls []) := by
    intro  x1 σ1 H locs ls h hB hl
    rw [FX4_readLevel_44] at h
    refine lv_aload_n S.1 S.2.1 dX4_readLevel_44 rfl (lv_at hl 0 rfl) ?_
    refine lv_bipush (v := (52 : Int32)) S.1 S.2.1 dX4_readLevel_45 (by decide) ?_
    obtain ⟨_, σ_4, e_4, h⟩ := b2s h
    refine cCallV S hK cKSc hKS hA (kX4_expect e_4) (cwX4_106 S.2.2.2.2 (rm := rmX4_expect) rfl rfl ⟨Nat.le_of_ble_eq_true rfl, Nat.le_of_ble_eq_true rfl⟩) hB 43 rfl rfl rfl hl.1 rfl (lv_room (Nat.le_of_ble_eq_true rfl)) dX4_readLevel_47 ⟨Nat.zero_le _, Nat.zero_le _⟩ (fun H locs hB => ?_)
    exact P50  _ _ _ _ _ h hB hl
  refine lv_iconst (v := (5 : Int32)) S.1 S.2.1 dX4_readLevel_0 (by decide) ?_
  refine lv_istore_n (lv' := [(1, .int (5 : Int32)), (0, .ref (ad 43))]) S.1 S.2.1 dX4_readLevel_1 rfl hl (by decide) rfl (fun ls hl => ?_)
  refine lv_aload_n S.1 S.2.1 dX4_readLevel_2 rfl (lv_at hl 1 rfl) ?_
  refine tg_43_4 S hK hB (S.2.2.2.2 _ (List.mem_cons_of_mem _ wf_X4_34)) rfl dX4_readLevel_3 ?_
  refine lv_iconst (v := (4 : Int32)) S.1 S.2.1 dX4_readLevel_6 (by decide) ?_
  refine lv_icmp_ne (tgt := 50) S.1 S.2.1 dX4_readLevel_7 (by decide) (fun c_1 => ?_) (fun c_1 => ?_)
  · replace h := (if_neg c_1).symm.trans h
    exact P50  _ _ _ _ _ h hB (lv_sub hl [1, 0] rfl)
  · replace h := (if_pos c_1).symm.trans h
    refine lv_aload_n S.1 S.2.1 dX4_readLevel_10 rfl (lv_at hl 1 rfl) ?_
    obtain ⟨_, σ_2, e_2, h⟩ := b2s h
    refine cCallV S hK cKSc hKS hA (kX4_advance e_2) (cwX4_75 S.2.2.2.2 (rm := rmX4_advance) rfl rfl ⟨Nat.le_of_ble_eq_true rfl, Nat.le_of_ble_eq_true rfl⟩) hB 43 rfl rfl rfl hl.1 rfl (lv_room (Nat.le_of_ble_eq_true rfl)) dX4_readLevel_11 ⟨Nat.zero_le _, Nat.zero_le _⟩ (fun H locs hB => ?_)
    refine lv_aload_n S.1 S.2.1 dX4_readLevel_14 rfl (lv_at hl 1 rfl) ?_
    refine tg_43_6 S hK hB (S.2.2.2.2 _ (List.mem_cons_of_mem _ wf_X4_95)) rfl dX4_readLevel_15 ?_
    refine lv_l2i (v := ((σ_2.2.1 4306).toInt32)) S.1 S.2.1 dX4_readLevel_18 rfl ?_
    refine lv_istore_n (lv' := [(1, .int ((σ_2.2.1 4306).toInt32)), (0, .ref (ad 43))]) S.1 S.2.1 dX4_readLevel_19 rfl hl (by decide) rfl (fun ls hl => ?_)
    refine lv_aload_n S.1 S.2.1 dX4_readLevel_20 rfl (lv_at hl 1 rfl) ?_
    refine tg_43_4 S hK hB (S.2.2.2.2 _ (List.mem_cons_of_mem _ wf_X4_34)) rfl dX4_readLevel_21 ?_
    refine lv_bipush (v := (52 : Int32)) S.1 S.2.1 dX4_readLevel_24 (by decide) ?_
    refine lv_icmp_ne (tgt := 44) S.1 S.2.1 dX4_readLevel_26 (by decide) (fun c_3 => ?_) (fun c_3 => ?_)
    · replace h := (if_neg c_3).symm.trans h
      exact P44  _ _ _ _ _ h hB (lv_sub hl [1, 0] rfl)
    · replace h := (if_pos c_3).symm.trans h
      refine lv_iload_n S.1 S.2.1 dX4_readLevel_29 rfl (lv_at hl 0 rfl) ?_
      refine lv_bipush (v := (9 : Int32)) S.1 S.2.1 dX4_readLevel_30 (by decide) ?_
      refine lv_icmp_le (tgt := 44) S.1 S.2.1 dX4_readLevel_32 (by decide) (fun c_5 => ?_) (fun c_5 => ?_)
      · replace h := (if_pos c_5).symm.trans h
        exact P44  _ _ _ _ _ h hB (lv_sub hl [1, 0] rfl)
      · replace h := (if_neg c_5).symm.trans h
        refine lv_aload_n S.1 S.2.1 dX4_readLevel_35 rfl (lv_at hl 1 rfl) ?_
        refine lv_iconst (v := (5 : Int32)) S.1 S.2.1 dX4_readLevel_36 (by decide) ?_
        refine lv_aload_n S.1 S.2.1 dX4_readLevel_37 rfl (lv_at hl 1 rfl) ?_
        refine tg_43_5 S hK hB (S.2.2.2.2 _ (List.mem_cons_of_mem _ wf_X4_53)) rfl dX4_readLevel_38 ?_
        obtain ⟨_, σ_6, e_6, h⟩ := b2s h
        refine cCallV S hK cKSc hKS hA (kX4_complain e_6) (cwX4_56 S.2.2.2.2 (rm := rmX4_complain) rfl rfl ⟨Nat.le_of_ble_eq_true rfl, Nat.le_of_ble_eq_true rfl⟩) hB 43 rfl rfl rfl hl.1 rfl (lv_room (Nat.le_of_ble_eq_true rfl)) dX4_readLevel_41 ⟨Nat.zero_le _, Nat.zero_le _⟩ (fun H locs hB => ?_)
        exact P44  _ _ _ _ _ h hB (lv_sub hl [1, 0] rfl)
def FX4_readBounds_121   (σ1 : CS) : Option (Unit × CS) :=
    b2 (FX4_expect (52 : Int32) σ1) fun (_ : Unit) σ_7 =>
    b2 (FX4_expect (35 : Int32) σ_7) fun (_ : Unit) σ_8 =>
    some ((), σ_8)
def FX4_readBounds_112   (σ1 : CS) : Option (Unit × CS) :=
    b2 (FX4_complain (5 : Int32) (σ1.1 4305) σ1) fun (_ : Unit) σ_10 =>
    FX4_readBounds_121 σ_10
def FX4_readBounds_61   (σ1 : CS) : Option (Unit × CS) :=
    b2 (FX4_expect (52 : Int32) σ1) fun (_ : Unit) σ_4 =>
    b2 (FX4_expect (50 : Int32) σ_4) fun (_ : Unit) σ_5 =>
    if (σ_5.1 4304) = (52 : Int32) then
      if ((σ_5.2.1 4306).toInt32) < (σ_5.1 4310) then
        FX4_readBounds_112 (tI σ_5 4311 ((σ_5.2.1 4306).toInt32))
      else
        if ((σ_5.2.1 4306).toInt32) ≤ (1000 : Int32) then
          FX4_readBounds_121 (tI σ_5 4311 ((σ_5.2.1 4306).toInt32))
        else
          FX4_readBounds_112 (tI σ_5 4311 ((σ_5.2.1 4306).toInt32))
    else
      FX4_readBounds_121 (tI σ_5 4311 ((σ_5.2.1 4306).toInt32))
def FX4_readBounds  (σ : CS) : Option (Unit × CS) :=
  if (σ.1 4304) = (34 : Int32) then
    b2 (FX4_advance (tI (tI σ 4310 (0 : Int32)) 4311 (1000000 : Int32))) fun (_ : Unit) σ_2 =>
    if (σ_2.1 4304) = (52 : Int32) then
      if ((σ_2.2.1 4306).toInt32) ≤ (1000 : Int32) then
        FX4_readBounds_61 (tI σ_2 4310 ((σ_2.2.1 4306).toInt32))
      else
        b2 (FX4_complain (5 : Int32) (σ_2.1 4305) (tI σ_2 4310 ((σ_2.2.1 4306).toInt32))) fun (_ : Unit) σ_13 =>
        FX4_readBounds_61 σ_13
    else
      FX4_readBounds_61 (tI σ_2 4310 ((σ_2.2.1 4306).toInt32))
  else
    some ((), (tI (tI σ 4310 (0 : Int32)) 4311 (1000000 : Int32)))
abbrev rmX4_readBounds : Room := { frames := 3, cells := 0, slots := 0, locals := 62 }
set_option maxRecDepth 100000 in
set_option maxHeartbeats 4000000 in
theorem kX4_readBounds {l : Launch} {D : va_G} {cI cJ cQ : ClassId} {ad : Nat → Nat} {ra : Nat → Nat → Nat} {adK adV tK : Nat → Nat}  {σ σ' : CS} (h : FX4_readBounds  σ = some ((), σ')) : gMet l yX4_readBounds qX4_readBounds rmX4_readBounds 0 0 D vwCl [(cI, .int), (cJ, .long), (cQ, .array .long)] (cKS adK adV tK) [.ref (ad 43)] (CW cI cJ cQ ad ra σ) (CW cI cJ cQ ad ra σ') none := by
  refine gMet.of (cc := cX4_readBounds) (maxL := 1) (ret := none) (by decide) rfl (Nat.le_of_ble_eq_true rfl) ?_
  intro p e s m args below meth c S hr hlk hnm hK hKS hA hB ls hl
  have hl : lv_has ls 1 [(0, .ref (ad 43))] := hl
  replace S : CallFix p m c cX4_readBounds 1 s args (_ :: wsL_law) RX4 := S
  rw [FX4_readBounds] at h
  have P121 : ∀  (σ1 : CS) (H : Heap) (locs : List Loc) (ls : Array Slot), FX4_readBounds_121  σ1 = some ((), σ') → gB D vwCl (va_A (CW cI cJ cQ ad ra σ) s.heap.size) s.heap (CW cI cJ cQ ad ra σ1) [] H locs → lv_has ls 1 [(0, .ref (ad 43))] → W p l e rmX4_readBounds s m args below meth c H locs 0 0 (MQ below (gQ D vwCl (CW cI cJ cQ ad ra σ) (CW cI cJ cQ ad ra σ') none s.heap.size) args s 0 0 (va_A (CW cI cJ cQ ad ra σ) s.heap.size)) (F0 m 121 ls []) := by
    intro   σ1 H locs ls h hB hl
    rw [FX4_readBounds_121] at h
    refine lv_aload_n S.1 S.2.1 dX4_readBounds_121 rfl (lv_at hl 0 rfl) ?_
    refine lv_bipush (v := (52 : Int32)) S.1 S.2.1 dX4_readBounds_122 (by decide) ?_
    obtain ⟨_, σ_7, e_7, h⟩ := b2s h
    refine cCallV S hK cKSc hKS hA (kX4_expect e_7) (cwX4_106 S.2.2.2.2 (rm := rmX4_expect) rfl rfl ⟨Nat.le_of_ble_eq_true rfl, Nat.le_of_ble_eq_true rfl⟩) hB 43 rfl rfl rfl hl.1 rfl (lv_room (Nat.le_of_ble_eq_true rfl)) dX4_readBounds_124 ⟨Nat.zero_le _, Nat.zero_le _⟩ (fun H locs hB => ?_)
    refine lv_aload_n S.1 S.2.1 dX4_readBounds_127 rfl (lv_at hl 0 rfl) ?_
    refine lv_bipush (v := (35 : Int32)) S.1 S.2.1 dX4_readBounds_128 (by decide) ?_
    obtain ⟨_, σ_8, e_8, h⟩ := b2s h
    refine cCallV S hK cKSc hKS hA (kX4_expect e_8) (cwX4_106 S.2.2.2.2 (rm := rmX4_expect) rfl rfl ⟨Nat.le_of_ble_eq_true rfl, Nat.le_of_ble_eq_true rfl⟩) hB 43 rfl rfl rfl hl.1 rfl (lv_room (Nat.le_of_ble_eq_true rfl)) dX4_readBounds_130 ⟨Nat.zero_le _, Nat.zero_le _⟩ (fun H locs hB => ?_)
    cases h
    exact gRetV S.1 S.2.1 hr hlk hB dX4_readBounds_133
  have P112 : ∀  (σ1 : CS) (H : Heap) (locs : List Loc) (ls : Array Slot), FX4_readBounds_112  σ1 = some ((), σ') → gB D vwCl (va_A (CW cI cJ cQ ad ra σ) s.heap.size) s.heap (CW cI cJ cQ ad ra σ1) [] H locs → lv_has ls 1 [(0, .ref (ad 43))] → W p l e rmX4_readBounds s m args below meth c H locs 0 0 (MQ below (gQ D vwCl (CW cI cJ cQ ad ra σ) (CW cI cJ cQ ad ra σ') none s.heap.size) args s 0 0 (va_A (CW cI cJ cQ ad ra σ) s.heap.size)) (F0 m 112 ls []) := by
    intro   σ1 H locs ls h hB hl
    rw [FX4_readBounds_112] at h
    refine lv_aload_n S.1 S.2.1 dX4_readBounds_112 rfl (lv_at hl 0 rfl) ?_
    refine lv_iconst (v := (5 : Int32)) S.1 S.2.1 dX4_readBounds_113 (by decide) ?_
    refine lv_aload_n S.1 S.2.1 dX4_readBounds_114 rfl (lv_at hl 0 rfl) ?_
    refine tg_43_5 S hK hB (S.2.2.2.2 _ (List.mem_cons_of_mem _ wf_X4_53)) rfl dX4_readBounds_115 ?_
    obtain ⟨_, σ_10, e_10, h⟩ := b2s h
    refine cCallV S hK cKSc hKS hA (kX4_complain e_10) (cwX4_56 S.2.2.2.2 (rm := rmX4_complain) rfl rfl ⟨Nat.le_of_ble_eq_true rfl, Nat.le_of_ble_eq_true rfl⟩) hB 43 rfl rfl rfl hl.1 rfl (lv_room (Nat.le_of_ble_eq_true rfl)) dX4_readBounds_118 ⟨Nat.zero_le _, Nat.zero_le _⟩ (fun H locs hB => ?_)
    exact P121  _ _ _ _ h hB hl
  have P61 : ∀  (σ1 : CS) (H : Heap) (locs : List Loc) (ls : Array Slot), FX4_readBounds_61  σ1 = some ((), σ') → gB D vwCl (va_A (CW cI cJ cQ ad ra σ) s.heap.size) s.heap (CW cI cJ cQ ad ra σ1) [] H locs → lv_has ls 1 [(0, .ref (ad 43))] → W p l e rmX4_readBounds s m args below meth c H locs 0 0 (MQ below (gQ D vwCl (CW cI cJ cQ ad ra σ) (CW cI cJ cQ ad ra σ') none s.heap.size) args s 0 0 (va_A (CW cI cJ cQ ad ra σ) s.heap.size)) (F0 m 61 ls []) := by
    intro   σ1 H locs ls h hB hl
    rw [FX4_readBounds_61] at h
    refine lv_aload_n S.1 S.2.1 dX4_readBounds_61 rfl (lv_at hl 0 rfl) ?_
    refine lv_bipush (v := (52 : Int32)) S.1 S.2.1 dX4_readBounds_62 (by decide) ?_
    obtain ⟨_, σ_4, e_4, h⟩ := b2s h
    refine cCallV S hK cKSc hKS hA (kX4_expect e_4) (cwX4_106 S.2.2.2.2 (rm := rmX4_expect) rfl rfl ⟨Nat.le_of_ble_eq_true rfl, Nat.le_of_ble_eq_true rfl⟩) hB 43 rfl rfl rfl hl.1 rfl (lv_room (Nat.le_of_ble_eq_true rfl)) dX4_readBounds_64 ⟨Nat.zero_le _, Nat.zero_le _⟩ (fun H locs hB => ?_)
    refine lv_aload_n S.1 S.2.1 dX4_readBounds_67 rfl (lv_at hl 0 rfl) ?_
    refine lv_bipush (v := (50 : Int32)) S.1 S.2.1 dX4_readBounds_68 (by decide) ?_
    obtain ⟨_, σ_5, e_5, h⟩ := b2s h
    refine cCallV S hK cKSc hKS hA (kX4_expect e_5) (cwX4_106 S.2.2.2.2 (rm := rmX4_expect) rfl rfl ⟨Nat.le_of_ble_eq_true rfl, Nat.le_of_ble_eq_true rfl⟩) hB 43 rfl rfl rfl hl.1 rfl (lv_room (Nat.le_of_ble_eq_true rfl)) dX4_readBounds_70 ⟨Nat.zero_le _, Nat.zero_le _⟩ (fun H locs hB => ?_)
    refine lv_aload_n S.1 S.2.1 dX4_readBounds_73 rfl (lv_at hl 0 rfl) ?_
    refine lv_aload_n S.1 S.2.1 dX4_readBounds_74 rfl (lv_at hl 0 rfl) ?_
    refine tg_43_6 S hK hB (S.2.2.2.2 _ (List.mem_cons_of_mem _ wf_X4_95)) rfl dX4_readBounds_75 ?_
    refine lv_l2i (v := ((σ_5.2.1 4306).toInt32)) S.1 S.2.1 dX4_readBounds_78 rfl ?_
    refine tp_43_11 S hK hB (S.2.2.2.2 _ (List.mem_cons_of_mem _ wf_X4_143)) dX4_readBounds_79 (fun H locs hB => ?_)
    refine lv_aload_n S.1 S.2.1 dX4_readBounds_82 rfl (lv_at hl 0 rfl) ?_
    refine tg_43_4 (v := (σ_5.1 4304)) S hK hB (S.2.2.2.2 _ (List.mem_cons_of_mem _ wf_X4_34)) rfl dX4_readBounds_83 ?_
    refine lv_bipush (v := (52 : Int32)) S.1 S.2.1 dX4_readBounds_86 (by decide) ?_
    refine lv_icmp_ne (tgt := 121) S.1 S.2.1 dX4_readBounds_88 (by decide) (fun c_6 => ?_) (fun c_6 => ?_)
    · replace h := (if_neg c_6).symm.trans h
      exact P121  _ _ _ _ h hB hl
    · replace h := (if_pos c_6).symm.trans h
      refine lv_aload_n S.1 S.2.1 dX4_readBounds_91 rfl (lv_at hl 0 rfl) ?_
      refine tg_43_11 (v := ((σ_5.2.1 4306).toInt32)) S hK hB (S.2.2.2.2 _ (List.mem_cons_of_mem _ wf_X4_143)) rfl dX4_readBounds_92 ?_
      refine lv_aload_n S.1 S.2.1 dX4_readBounds_95 rfl (lv_at hl 0 rfl) ?_
      refine tg_43_10 (v := (σ_5.1 4310)) S hK hB (S.2.2.2.2 _ (List.mem_cons_of_mem _ wf_X4_139)) rfl dX4_readBounds_96 ?_
      refine lv_icmp_lt (tgt := 112) S.1 S.2.1 dX4_readBounds_99 (by decide) (fun c_9 => ?_) (fun c_9 => ?_)
      · replace h := (if_pos c_9).symm.trans h
        exact P112  _ _ _ _ h hB hl
      · replace h := (if_neg c_9).symm.trans h
        refine lv_aload_n S.1 S.2.1 dX4_readBounds_102 rfl (lv_at hl 0 rfl) ?_
        refine tg_43_11 (v := ((σ_5.2.1 4306).toInt32)) S hK hB (S.2.2.2.2 _ (List.mem_cons_of_mem _ wf_X4_143)) rfl dX4_readBounds_103 ?_
        refine lv_sipush (v := (1000 : Int32)) S.1 S.2.1 dX4_readBounds_106 (by decide) ?_
        refine lv_icmp_le (tgt := 121) S.1 S.2.1 dX4_readBounds_109 (by decide) (fun c_11 => ?_) (fun c_11 => ?_)
        · replace h := (if_pos c_11).symm.trans h
          exact P121  _ _ _ _ h hB hl
        · replace h := (if_neg c_11).symm.trans h
          exact P112  _ _ _ _ h hB hl
  refine lv_aload_n S.1 S.2.1 dX4_readBounds_0 rfl (lv_at hl 0 rfl) ?_
  refine lv_iconst (v := (0 : Int32)) S.1 S.2.1 dX4_readBounds_1 (by decide) ?_
  refine tp_43_10 S hK hB (S.2.2.2.2 _ (List.mem_cons_of_mem _ wf_X4_139)) dX4_readBounds_2 (fun H locs hB => ?_)
  refine lv_aload_n S.1 S.2.1 dX4_readBounds_5 rfl (lv_at hl 0 rfl) ?_
  refine lv_ldc (v := 1000000) S.1 S.2.1 S.2.2.2.1 (S.2.2.2.2 _ (List.mem_cons_of_mem _ wc_X4_142)) dX4_readBounds_6 ?_
  refine tp_43_11 S hK hB (S.2.2.2.2 _ (List.mem_cons_of_mem _ wf_X4_143)) dX4_readBounds_8 (fun H locs hB => ?_)
  refine lv_aload_n S.1 S.2.1 dX4_readBounds_11 rfl (lv_at hl 0 rfl) ?_
  refine tg_43_4 (v := (σ.1 4304)) S hK hB (S.2.2.2.2 _ (List.mem_cons_of_mem _ wf_X4_34)) rfl dX4_readBounds_12 ?_
  refine lv_bipush (v := (34 : Int32)) S.1 S.2.1 dX4_readBounds_15 (by decide) ?_
  refine lv_icmp_ne (tgt := 133) S.1 S.2.1 dX4_readBounds_17 (by decide) (fun c_1 => ?_) (fun c_1 => ?_)
  · replace h := (if_neg c_1).symm.trans h
    cases h
    exact gRetV S.1 S.2.1 hr hlk hB dX4_readBounds_133
  · replace h := (if_pos c_1).symm.trans h
    refine lv_aload_n S.1 S.2.1 dX4_readBounds_20 rfl (lv_at hl 0 rfl) ?_
    obtain ⟨_, σ_2, e_2, h⟩ := b2s h
    refine cCallV S hK cKSc hKS hA (kX4_advance e_2) (cwX4_75 S.2.2.2.2 (rm := rmX4_advance) rfl rfl ⟨Nat.le_of_ble_eq_true rfl, Nat.le_of_ble_eq_true rfl⟩) hB 43 rfl rfl rfl hl.1 rfl (lv_room (Nat.le_of_ble_eq_true rfl)) dX4_readBounds_21 ⟨Nat.zero_le _, Nat.zero_le _⟩ (fun H locs hB => ?_)
    refine lv_aload_n S.1 S.2.1 dX4_readBounds_24 rfl (lv_at hl 0 rfl) ?_
    refine lv_aload_n S.1 S.2.1 dX4_readBounds_25 rfl (lv_at hl 0 rfl) ?_
    refine tg_43_6 S hK hB (S.2.2.2.2 _ (List.mem_cons_of_mem _ wf_X4_95)) rfl dX4_readBounds_26 ?_
    refine lv_l2i (v := ((σ_2.2.1 4306).toInt32)) S.1 S.2.1 dX4_readBounds_29 rfl ?_
    refine tp_43_10 S hK hB (S.2.2.2.2 _ (List.mem_cons_of_mem _ wf_X4_139)) dX4_readBounds_30 (fun H locs hB => ?_)
    refine lv_aload_n S.1 S.2.1 dX4_readBounds_33 rfl (lv_at hl 0 rfl) ?_
    refine tg_43_4 (v := (σ_2.1 4304)) S hK hB (S.2.2.2.2 _ (List.mem_cons_of_mem _ wf_X4_34)) rfl dX4_readBounds_34 ?_
    refine lv_bipush (v := (52 : Int32)) S.1 S.2.1 dX4_readBounds_37 (by decide) ?_
    refine lv_icmp_ne (tgt := 61) S.1 S.2.1 dX4_readBounds_39 (by decide) (fun c_3 => ?_) (fun c_3 => ?_)
    · replace h := (if_neg c_3).symm.trans h
      exact P61  _ _ _ _ h hB hl
    · replace h := (if_pos c_3).symm.trans h
      refine lv_aload_n S.1 S.2.1 dX4_readBounds_42 rfl (lv_at hl 0 rfl) ?_
      refine tg_43_10 (v := ((σ_2.2.1 4306).toInt32)) S hK hB (S.2.2.2.2 _ (List.mem_cons_of_mem _ wf_X4_139)) rfl dX4_readBounds_43 ?_
      refine lv_sipush (v := (1000 : Int32)) S.1 S.2.1 dX4_readBounds_46 (by decide) ?_
      refine lv_icmp_le (tgt := 61) S.1 S.2.1 dX4_readBounds_49 (by decide) (fun c_12 => ?_) (fun c_12 => ?_)
      · replace h := (if_pos c_12).symm.trans h
        exact P61  _ _ _ _ h hB hl
      · replace h := (if_neg c_12).symm.trans h
        refine lv_aload_n S.1 S.2.1 dX4_readBounds_52 rfl (lv_at hl 0 rfl) ?_
        refine lv_iconst (v := (5 : Int32)) S.1 S.2.1 dX4_readBounds_53 (by decide) ?_
        refine lv_aload_n S.1 S.2.1 dX4_readBounds_54 rfl (lv_at hl 0 rfl) ?_
        refine tg_43_5 (v := (σ_2.1 4305)) S hK hB (S.2.2.2.2 _ (List.mem_cons_of_mem _ wf_X4_53)) rfl dX4_readBounds_55 ?_
        obtain ⟨_, σ_13, e_13, h⟩ := b2s h
        refine cCallV S hK cKSc hKS hA (kX4_complain e_13) (cwX4_56 S.2.2.2.2 (rm := rmX4_complain) rfl rfl ⟨Nat.le_of_ble_eq_true rfl, Nat.le_of_ble_eq_true rfl⟩) hB 43 rfl rfl rfl hl.1 rfl (lv_room (Nat.le_of_ble_eq_true rfl)) dX4_readBounds_58 ⟨Nat.zero_le _, Nat.zero_le _⟩ (fun H locs hB => ?_)
        exact P61  _ _ _ _ h hB hl
def FX4_single (p0 : Int32) (σ : CS) : Option (Int32 × CS) :=
  b2 (FX3_add (σ.1 4304) (σ.1 4305) p0 (-1 : Int32) σ) fun r_1 σ_1 =>
  b2 (FX4_advance σ_1) fun (_ : Unit) σ_2 =>
  some (r_1, σ_2)
abbrev rmX4_single : Room := { frames := 2, cells := 0, slots := 0, locals := 47 }
set_option maxRecDepth 100000 in
set_option maxHeartbeats 4000000 in
theorem kX4_single {l : Launch} {D : va_G} {cI cJ cQ : ClassId} {ad : Nat → Nat} {ra : Nat → Nat → Nat} {adK adV tK : Nat → Nat} {p0 : Int32} {σ σ' : CS} {r : Int32} (h : FX4_single p0 σ = some (r, σ')) : gMet l yX4_single qX4_single rmX4_single 0 0 D vwCl [(cI, .int), (cJ, .long), (cQ, .array .long)] (cKS adK adV tK) [.ref (ad 43), .int p0] (CW cI cJ cQ ad ra σ) (CW cI cJ cQ ad ra σ') (some (.int r)) := by
  refine gMet.of (cc := cX4_single) (maxL := 3) (ret := (some .int)) (by decide) rfl (Nat.le_of_ble_eq_true rfl) ?_
  intro p e s m args below meth c S hr hlk hnm hK hKS hA hB ls hl
  have hl : lv_has ls 3 [(0, .ref (ad 43)), (1, .int p0)] := hl
  replace S : CallFix p m c cX4_single 3 s args (_ :: wsL_law) RX4 := S
  rw [FX4_single] at h
  refine lv_aload_n S.1 S.2.1 dX4_single_0 rfl (lv_at hl 0 rfl) ?_
  refine tg_43_1 S hK hB (S.2.2.2.2 _ (List.mem_cons_of_mem _ wf_X4_15)) dX4_single_1 ?_
  refine lv_aload_n S.1 S.2.1 dX4_single_4 rfl (lv_at hl 0 rfl) ?_
  refine tg_43_4 S hK hB (S.2.2.2.2 _ (List.mem_cons_of_mem _ wf_X4_34)) rfl dX4_single_5 ?_
  refine lv_aload_n S.1 S.2.1 dX4_single_8 rfl (lv_at hl 0 rfl) ?_
  refine tg_43_5 S hK hB (S.2.2.2.2 _ (List.mem_cons_of_mem _ wf_X4_53)) rfl dX4_single_9 ?_
  refine lv_iload_n S.1 S.2.1 dX4_single_12 rfl (lv_at hl 1 rfl) ?_
  refine lv_iconst (v := (-1 : Int32)) S.1 S.2.1 dX4_single_13 (by decide) ?_
  obtain ⟨r_1, σ_1, e_1, h⟩ := b2s h
  refine cCallI S hK cKSc hKS hA (kX3_add e_1) (cwX4_149 S.2.2.2.2 (rm := rmX3_add) rfl rfl ⟨Nat.le_of_ble_eq_true rfl, Nat.le_of_ble_eq_true rfl⟩) hB 13 rfl rfl rfl hl.1 rfl (lv_room (Nat.le_of_ble_eq_true rfl)) dX4_single_14 ⟨Nat.zero_le _, Nat.zero_le _⟩ (fun H locs hB => ?_)
  refine lv_istore_n (lv' := [(2, .int r_1), (0, .ref (ad 43)), (1, .int p0)]) S.1 S.2.1 dX4_single_17 rfl hl (by decide) rfl (fun ls hl => ?_)
  refine lv_aload_n S.1 S.2.1 dX4_single_18 rfl (lv_at hl 1 rfl) ?_
  obtain ⟨_, σ_2, e_2, h⟩ := b2s h
  refine cCallV S hK cKSc hKS hA (kX4_advance e_2) (cwX4_75 S.2.2.2.2 (rm := rmX4_advance) rfl rfl ⟨Nat.le_of_ble_eq_true rfl, Nat.le_of_ble_eq_true rfl⟩) hB 43 rfl rfl rfl hl.1 rfl (lv_room (Nat.le_of_ble_eq_true rfl)) dX4_single_19 ⟨Nat.zero_le _, Nat.zero_le _⟩ (fun H locs hB => ?_)
  refine lv_iload_n S.1 S.2.1 dX4_single_22 rfl (lv_at hl 0 rfl) ?_
  cases h
  exact gRetI S.1 S.2.1 hr hlk hB dX4_single_23
def FX4_named_53 (L : Nat)  (x1 : Int32) (σ1 : CS) : Option (Int32 × CS) :=
    b2 (FX4_expect (51 : Int32) σ1) fun (_ : Unit) σ_5 =>
    some ((getI 44 (σ_5.2.2.1 34) x1), σ_5)
def FX4_named (L : Nat)  (σ : CS) : Option (Int32 × CS) :=
  b2 (FX4_advance σ) fun (_ : Unit) σ_1 =>
  b2 (FX5_find L (σ_1.2.1 4306) σ_1) fun r_2 σ_2 =>
  b2 (FX5_sortOf r_2 σ_2) fun r_3 σ_3 =>
  if (σ_3.1 4304) = (51 : Int32) then
    if r_3 = (1 : Int32) then
      FX4_named_53 L r_2 σ_3
    else
      if r_3 = (3 : Int32) then
        FX4_named_53 L r_2 σ_3
      else
        b2 (FX4_complain (2 : Int32) (σ_3.1 4305) σ_3) fun (_ : Unit) σ_8 =>
        FX4_named_53 L r_2 σ_8
  else
    FX4_named_53 L r_2 σ_3
abbrev rmX4_named : Room := { frames := 3, cells := 0, slots := 0, locals := 62 }
set_option maxRecDepth 100000 in
set_option maxHeartbeats 4000000 in
theorem kX4_named {l : Launch} {D : va_G} {cI cJ cQ : ClassId} {ad : Nat → Nat} {ra : Nat → Nat → Nat} {adK adV tK : Nat → Nat} {L : Nat}  {σ σ' : CS} {r : Int32} (h : FX4_named L  σ = some (r, σ')) : gMet l yX4_named qX4_named rmX4_named 0 0 D vwCl [(cI, .int), (cJ, .long), (cQ, .array .long)] (cKS adK adV tK) [.ref (ad 43)] (CW cI cJ cQ ad ra σ) (CW cI cJ cQ ad ra σ') (some (.int r)) := by
  refine gMet.of (cc := cX4_named) (maxL := 3) (ret := (some .int)) (by decide) rfl (Nat.le_of_ble_eq_true rfl) ?_
  intro p e s m args below meth c S hr hlk hnm hK hKS hA hB ls hl
  have hl : lv_has ls 3 [(0, .ref (ad 43))] := hl
  replace S : CallFix p m c cX4_named 3 s args (_ :: wsL_law) RX4 := S
  rw [FX4_named] at h
  have P53 : ∀ (x1 : Int32) (σ1 : CS) (H : Heap) (locs : List Loc) (ls : Array Slot), FX4_named_53 L x1 σ1 = some (r, σ') → gB D vwCl (va_A (CW cI cJ cQ ad ra σ) s.heap.size) s.heap (CW cI cJ cQ ad ra σ1) [] H locs → lv_has ls 3 [(0, .ref (ad 43)), (1, .int x1)] → W p l e rmX4_named s m args below meth c H locs 0 0 (MQ below (gQ D vwCl (CW cI cJ cQ ad ra σ) (CW cI cJ cQ ad ra σ') (some (.int r)) s.heap.size) args s 0 0 (va_A (CW cI cJ cQ ad ra σ) s.heap.size)) (F0 m 53 ls []) := by
    intro  x1 σ1 H locs ls h hB hl
    rw [FX4_named_53] at h
    refine lv_aload_n S.1 S.2.1 dX4_named_53 rfl (lv_at hl 0 rfl) ?_
    refine lv_bipush (v := (51 : Int32)) S.1 S.2.1 dX4_named_54 (by decide) ?_
    obtain ⟨_, σ_5, e_5, h⟩ := b2s h
    refine cCallV S hK cKSc hKS hA (kX4_expect e_5) (cwX4_106 S.2.2.2.2 (rm := rmX4_expect) rfl rfl ⟨Nat.le_of_ble_eq_true rfl, Nat.le_of_ble_eq_true rfl⟩) hB 43 rfl rfl rfl hl.1 rfl (lv_room (Nat.le_of_ble_eq_true rfl)) dX4_named_56 ⟨Nat.zero_le _, Nat.zero_le _⟩ (fun H locs hB => ?_)
    refine lv_aload_n S.1 S.2.1 dX4_named_59 rfl (lv_at hl 0 rfl) ?_
    refine tg_43_2 S hK hB (S.2.2.2.2 _ (List.mem_cons_of_mem _ wf_X4_19)) dX4_named_60 ?_
    refine tgN_28_2 S hK hB (nF hKS 14 rfl) dX4_named_63 ?_
    refine lv_iload_n S.1 S.2.1 dX4_named_66 rfl (lv_at hl 1 rfl) ?_
    refine lg_33 (r := (getI 44 (σ_5.2.2.1 34) x1)) S hK cKSc hKS hA hB rfl (cwX4_47 S.2.2.2.2 (rm := { frames := 0, cells := 0, slots := 0, locals := 0 }) rfl rfl ⟨Nat.le_of_ble_eq_true rfl, Nat.le_of_ble_eq_true rfl⟩) hl.1 (lv_room (Nat.le_of_ble_eq_true rfl)) dX4_named_67 ⟨Nat.zero_le _, Nat.zero_le _⟩ (fun H locs hB => ?_)
    cases h
    exact gRetI S.1 S.2.1 hr hlk hB dX4_named_70
  refine lv_aload_n S.1 S.2.1 dX4_named_0 rfl (lv_at hl 0 rfl) ?_
  obtain ⟨_, σ_1, e_1, h⟩ := b2s h
  refine cCallV S hK cKSc hKS hA (kX4_advance e_1) (cwX4_75 S.2.2.2.2 (rm := rmX4_advance) rfl rfl ⟨Nat.le_of_ble_eq_true rfl, Nat.le_of_ble_eq_true rfl⟩) hB 43 rfl rfl rfl hl.1 rfl (lv_room (Nat.le_of_ble_eq_true rfl)) dX4_named_1 ⟨Nat.zero_le _, Nat.zero_le _⟩ (fun H locs hB => ?_)
  refine lv_aload_n S.1 S.2.1 dX4_named_4 rfl (lv_at hl 0 rfl) ?_
  refine tg_43_2 S hK hB (S.2.2.2.2 _ (List.mem_cons_of_mem _ wf_X4_19)) dX4_named_5 ?_
  refine lv_aload_n S.1 S.2.1 dX4_named_8 rfl (lv_at hl 0 rfl) ?_
  refine tg_43_6 S hK hB (S.2.2.2.2 _ (List.mem_cons_of_mem _ wf_X4_95)) rfl dX4_named_9 ?_
  obtain ⟨r_2, σ_2, e_2, h⟩ := b2s h
  refine cCallI S hK cKSc hKS hA (kX5_find e_2) (cwX4_123 S.2.2.2.2 (rm := rmX5_find) rfl rfl ⟨Nat.le_of_ble_eq_true rfl, Nat.le_of_ble_eq_true rfl⟩) hB 28 rfl rfl rfl hl.1 rfl (lv_room (Nat.le_of_ble_eq_true rfl)) dX4_named_12 ⟨Nat.zero_le _, Nat.zero_le _⟩ (fun H locs hB => ?_)
  refine lv_istore_n (lv' := [(1, .int r_2), (0, .ref (ad 43))]) S.1 S.2.1 dX4_named_15 rfl hl (by decide) rfl (fun ls hl => ?_)
  refine lv_aload_n S.1 S.2.1 dX4_named_16 rfl (lv_at hl 1 rfl) ?_
  refine tg_43_2 S hK hB (S.2.2.2.2 _ (List.mem_cons_of_mem _ wf_X4_19)) dX4_named_17 ?_
  refine lv_iload_n S.1 S.2.1 dX4_named_20 rfl (lv_at hl 0 rfl) ?_
  obtain ⟨r_3, σ_3, e_3, h⟩ := b2s h
  refine cCallI S hK cKSc hKS hA (kX5_sortOf e_3) (cwX4_186 S.2.2.2.2 (rm := rmX5_sortOf) rfl rfl ⟨Nat.le_of_ble_eq_true rfl, Nat.le_of_ble_eq_true rfl⟩) hB 28 rfl rfl rfl hl.1 rfl (lv_room (Nat.le_of_ble_eq_true rfl)) dX4_named_21 ⟨Nat.zero_le _, Nat.zero_le _⟩ (fun H locs hB => ?_)
  refine lv_istore_n (lv' := [(2, .int r_3), (1, .int r_2), (0, .ref (ad 43))]) S.1 S.2.1 dX4_named_24 rfl hl (by decide) rfl (fun ls hl => ?_)
  refine lv_aload_n S.1 S.2.1 dX4_named_25 rfl (lv_at hl 2 rfl) ?_
  refine tg_43_4 S hK hB (S.2.2.2.2 _ (List.mem_cons_of_mem _ wf_X4_34)) rfl dX4_named_26 ?_
  refine lv_bipush (v := (51 : Int32)) S.1 S.2.1 dX4_named_29 (by decide) ?_
  refine lv_icmp_ne (tgt := 53) S.1 S.2.1 dX4_named_31 (by decide) (fun c_4 => ?_) (fun c_4 => ?_)
  · replace h := (if_neg c_4).symm.trans h
    exact P53  _ _ _ _ _ h hB (lv_sub hl [2, 1] rfl)
  · replace h := (if_pos c_4).symm.trans h
    refine lv_iload_n S.1 S.2.1 dX4_named_34 rfl (lv_at hl 0 rfl) ?_
    refine lv_iconst (v := (1 : Int32)) S.1 S.2.1 dX4_named_35 (by decide) ?_
    refine lv_icmp_eq (tgt := 53) S.1 S.2.1 dX4_named_36 (by decide) (fun c_6 => ?_) (fun c_6 => ?_)
    · replace h := (if_pos c_6).symm.trans h
      exact P53  _ _ _ _ _ h hB (lv_sub hl [2, 1] rfl)
    · replace h := (if_neg c_6).symm.trans h
      refine lv_iload_n S.1 S.2.1 dX4_named_39 rfl (lv_at hl 0 rfl) ?_
      refine lv_iconst (v := (3 : Int32)) S.1 S.2.1 dX4_named_40 (by decide) ?_
      refine lv_icmp_eq (tgt := 53) S.1 S.2.1 dX4_named_41 (by decide) (fun c_7 => ?_) (fun c_7 => ?_)
      · replace h := (if_pos c_7).symm.trans h
        exact P53  _ _ _ _ _ h hB (lv_sub hl [2, 1] rfl)
      · replace h := (if_neg c_7).symm.trans h
        refine lv_aload_n S.1 S.2.1 dX4_named_44 rfl (lv_at hl 2 rfl) ?_
        refine lv_iconst (v := (2 : Int32)) S.1 S.2.1 dX4_named_45 (by decide) ?_
        refine lv_aload_n S.1 S.2.1 dX4_named_46 rfl (lv_at hl 2 rfl) ?_
        refine tg_43_5 S hK hB (S.2.2.2.2 _ (List.mem_cons_of_mem _ wf_X4_53)) rfl dX4_named_47 ?_
        obtain ⟨_, σ_8, e_8, h⟩ := b2s h
        refine cCallV S hK cKSc hKS hA (kX4_complain e_8) (cwX4_56 S.2.2.2.2 (rm := rmX4_complain) rfl rfl ⟨Nat.le_of_ble_eq_true rfl, Nat.le_of_ble_eq_true rfl⟩) hB 43 rfl rfl rfl hl.1 rfl (lv_room (Nat.le_of_ble_eq_true rfl)) dX4_named_50 ⟨Nat.zero_le _, Nat.zero_le _⟩ (fun H locs hB => ?_)
        exact P53  _ _ _ _ _ h hB (lv_sub hl [2, 1] rfl)
def FX4_variable_70 (L : Nat)  (x1 : Int32) (σ1 : CS) : Option (Int32 × CS) :=
    b2 (FX4_advance σ1) fun (_ : Unit) σ_5 =>
    some ((getI 44 (σ_5.2.2.1 34) x1), σ_5)
def FX4_variable (L : Nat)  (σ : CS) : Option (Int32 × CS) :=
  b2 (FX5_find L (σ.2.1 4306) σ) fun r_1 σ_1 =>
  b2 (FX5_sortOf r_1 σ_1) fun r_2 σ_2 =>
  if r_2 = 0 then
    b2 (FX3_add (0 : Int32) (σ_2.1 4305) (getI 44 (σ_2.2.2.1 34) r_1) (-1 : Int32) σ_2) fun r_7 σ_7 =>
    b2 (FX4_advance σ_7) fun (_ : Unit) σ_8 =>
    some (r_7, σ_8)
  else
    if r_2 = (2 : Int32) then
      FX4_variable_70 L r_1 σ_2
    else
      b2 (FX4_complain (2 : Int32) (σ_2.1 4305) σ_2) fun (_ : Unit) σ_6 =>
      FX4_variable_70 L r_1 σ_6
abbrev rmX4_variable : Room := { frames := 2, cells := 0, slots := 0, locals := 47 }
set_option maxRecDepth 100000 in
set_option maxHeartbeats 4000000 in
theorem kX4_variable {l : Launch} {D : va_G} {cI cJ cQ : ClassId} {ad : Nat → Nat} {ra : Nat → Nat → Nat} {adK adV tK : Nat → Nat} {L : Nat}  {σ σ' : CS} {r : Int32} (h : FX4_variable L  σ = some (r, σ')) : gMet l yX4_variable qX4_variable rmX4_variable 0 0 D vwCl [(cI, .int), (cJ, .long), (cQ, .array .long)] (cKS adK adV tK) [.ref (ad 43)] (CW cI cJ cQ ad ra σ) (CW cI cJ cQ ad ra σ') (some (.int r)) := by
  refine gMet.of (cc := cX4_variable) (maxL := 4) (ret := (some .int)) (by decide) rfl (Nat.le_of_ble_eq_true rfl) ?_
  intro p e s m args below meth c S hr hlk hnm hK hKS hA hB ls hl
  have hl : lv_has ls 4 [(0, .ref (ad 43))] := hl
  replace S : CallFix p m c cX4_variable 4 s args (_ :: wsL_law) RX4 := S
  rw [FX4_variable] at h
  have P70 : ∀ (x1 : Int32) (σ1 : CS) (H : Heap) (locs : List Loc) (ls : Array Slot), FX4_variable_70 L x1 σ1 = some (r, σ') → gB D vwCl (va_A (CW cI cJ cQ ad ra σ) s.heap.size) s.heap (CW cI cJ cQ ad ra σ1) [] H locs → lv_has ls 4 [(0, .ref (ad 43)), (1, .int x1)] → W p l e rmX4_variable s m args below meth c H locs 0 0 (MQ below (gQ D vwCl (CW cI cJ cQ ad ra σ) (CW cI cJ cQ ad ra σ') (some (.int r)) s.heap.size) args s 0 0 (va_A (CW cI cJ cQ ad ra σ) s.heap.size)) (F0 m 70 ls []) := by
    intro  x1 σ1 H locs ls h hB hl
    rw [FX4_variable_70] at h
    refine lv_aload_n S.1 S.2.1 dX4_variable_70 rfl (lv_at hl 0 rfl) ?_
    obtain ⟨_, σ_5, e_5, h⟩ := b2s h
    refine cCallV S hK cKSc hKS hA (kX4_advance e_5) (cwX4_75 S.2.2.2.2 (rm := rmX4_advance) rfl rfl ⟨Nat.le_of_ble_eq_true rfl, Nat.le_of_ble_eq_true rfl⟩) hB 43 rfl rfl rfl hl.1 rfl (lv_room (Nat.le_of_ble_eq_true rfl)) dX4_variable_71 ⟨Nat.zero_le _, Nat.zero_le _⟩ (fun H locs hB => ?_)
    refine lv_aload_n S.1 S.2.1 dX4_variable_74 rfl (lv_at hl 0 rfl) ?_
    refine tg_43_2 S hK hB (S.2.2.2.2 _ (List.mem_cons_of_mem _ wf_X4_19)) dX4_variable_75 ?_
    refine tgN_28_2 S hK hB (nF hKS 14 rfl) dX4_variable_78 ?_
    refine lv_iload_n S.1 S.2.1 dX4_variable_81 rfl (lv_at hl 1 rfl) ?_
    refine lg_33 (r := (getI 44 (σ_5.2.2.1 34) x1)) S hK cKSc hKS hA hB rfl (cwX4_47 S.2.2.2.2 (rm := { frames := 0, cells := 0, slots := 0, locals := 0 }) rfl rfl ⟨Nat.le_of_ble_eq_true rfl, Nat.le_of_ble_eq_true rfl⟩) hl.1 (lv_room (Nat.le_of_ble_eq_true rfl)) dX4_variable_82 ⟨Nat.zero_le _, Nat.zero_le _⟩ (fun H locs hB => ?_)
    cases h
    exact gRetI S.1 S.2.1 hr hlk hB dX4_variable_85
  refine lv_aload_n S.1 S.2.1 dX4_variable_0 rfl (lv_at hl 0 rfl) ?_
  refine tg_43_2 S hK hB (S.2.2.2.2 _ (List.mem_cons_of_mem _ wf_X4_19)) dX4_variable_1 ?_
  refine lv_aload_n S.1 S.2.1 dX4_variable_4 rfl (lv_at hl 0 rfl) ?_
  refine tg_43_6 S hK hB (S.2.2.2.2 _ (List.mem_cons_of_mem _ wf_X4_95)) rfl dX4_variable_5 ?_
  obtain ⟨r_1, σ_1, e_1, h⟩ := b2s h
  refine cCallI S hK cKSc hKS hA (kX5_find e_1) (cwX4_123 S.2.2.2.2 (rm := rmX5_find) rfl rfl ⟨Nat.le_of_ble_eq_true rfl, Nat.le_of_ble_eq_true rfl⟩) hB 28 rfl rfl rfl hl.1 rfl (lv_room (Nat.le_of_ble_eq_true rfl)) dX4_variable_8 ⟨Nat.zero_le _, Nat.zero_le _⟩ (fun H locs hB => ?_)
  refine lv_istore_n (lv' := [(1, .int r_1), (0, .ref (ad 43))]) S.1 S.2.1 dX4_variable_11 rfl hl (by decide) rfl (fun ls hl => ?_)
  refine lv_aload_n S.1 S.2.1 dX4_variable_12 rfl (lv_at hl 1 rfl) ?_
  refine tg_43_2 S hK hB (S.2.2.2.2 _ (List.mem_cons_of_mem _ wf_X4_19)) dX4_variable_13 ?_
  refine lv_iload_n S.1 S.2.1 dX4_variable_16 rfl (lv_at hl 0 rfl) ?_
  obtain ⟨r_2, σ_2, e_2, h⟩ := b2s h
  refine cCallI S hK cKSc hKS hA (kX5_sortOf e_2) (cwX4_186 S.2.2.2.2 (rm := rmX5_sortOf) rfl rfl ⟨Nat.le_of_ble_eq_true rfl, Nat.le_of_ble_eq_true rfl⟩) hB 28 rfl rfl rfl hl.1 rfl (lv_room (Nat.le_of_ble_eq_true rfl)) dX4_variable_17 ⟨Nat.zero_le _, Nat.zero_le _⟩ (fun H locs hB => ?_)
  refine lv_istore_n (lv' := [(2, .int r_2), (1, .int r_1), (0, .ref (ad 43))]) S.1 S.2.1 dX4_variable_20 rfl hl (by decide) rfl (fun ls hl => ?_)
  refine lv_iload_n S.1 S.2.1 dX4_variable_21 rfl (lv_at hl 0 rfl) ?_
  refine lv_if_ne (tgt := 56) S.1 S.2.1 dX4_variable_22 (by decide) (fun c_3 => ?_) (fun c_3 => ?_)
  · replace h := (if_neg c_3).symm.trans h
    refine lv_iload_n S.1 S.2.1 dX4_variable_56 rfl (lv_at hl 0 rfl) ?_
    refine lv_iconst (v := (2 : Int32)) S.1 S.2.1 dX4_variable_57 (by decide) ?_
    refine lv_icmp_eq (tgt := 70) S.1 S.2.1 dX4_variable_58 (by decide) (fun c_4 => ?_) (fun c_4 => ?_)
    · replace h := (if_pos c_4).symm.trans h
      exact P70  _ _ _ _ _ h hB (lv_sub hl [2, 1] rfl)
    · replace h := (if_neg c_4).symm.trans h
      refine lv_aload_n S.1 S.2.1 dX4_variable_61 rfl (lv_at hl 2 rfl) ?_
      refine lv_iconst (v := (2 : Int32)) S.1 S.2.1 dX4_variable_62 (by decide) ?_
      refine lv_aload_n S.1 S.2.1 dX4_variable_63 rfl (lv_at hl 2 rfl) ?_
      refine tg_43_5 S hK hB (S.2.2.2.2 _ (List.mem_cons_of_mem _ wf_X4_53)) rfl dX4_variable_64 ?_
      obtain ⟨_, σ_6, e_6, h⟩ := b2s h
      refine cCallV S hK cKSc hKS hA (kX4_complain e_6) (cwX4_56 S.2.2.2.2 (rm := rmX4_complain) rfl rfl ⟨Nat.le_of_ble_eq_true rfl, Nat.le_of_ble_eq_true rfl⟩) hB 43 rfl rfl rfl hl.1 rfl (lv_room (Nat.le_of_ble_eq_true rfl)) dX4_variable_67 ⟨Nat.zero_le _, Nat.zero_le _⟩ (fun H locs hB => ?_)
      exact P70  _ _ _ _ _ h hB (lv_sub hl [2, 1] rfl)
  · replace h := (if_pos c_3).symm.trans h
    refine lv_aload_n S.1 S.2.1 dX4_variable_25 rfl (lv_at hl 2 rfl) ?_
    refine tg_43_1 S hK hB (S.2.2.2.2 _ (List.mem_cons_of_mem _ wf_X4_15)) dX4_variable_26 ?_
    refine lv_iconst (v := (0 : Int32)) S.1 S.2.1 dX4_variable_29 (by decide) ?_
    refine lv_aload_n S.1 S.2.1 dX4_variable_30 rfl (lv_at hl 2 rfl) ?_
    refine tg_43_5 S hK hB (S.2.2.2.2 _ (List.mem_cons_of_mem _ wf_X4_53)) rfl dX4_variable_31 ?_
    refine lv_aload_n S.1 S.2.1 dX4_variable_34 rfl (lv_at hl 2 rfl) ?_
    refine tg_43_2 S hK hB (S.2.2.2.2 _ (List.mem_cons_of_mem _ wf_X4_19)) dX4_variable_35 ?_
    refine tgN_28_2 S hK hB (nF hKS 14 rfl) dX4_variable_38 ?_
    refine lv_iload_n S.1 S.2.1 dX4_variable_41 rfl (lv_at hl 1 rfl) ?_
    refine lg_33 (r := (getI 44 (σ_2.2.2.1 34) r_1)) S hK cKSc hKS hA hB rfl (cwX4_47 S.2.2.2.2 (rm := { frames := 0, cells := 0, slots := 0, locals := 0 }) rfl rfl ⟨Nat.le_of_ble_eq_true rfl, Nat.le_of_ble_eq_true rfl⟩) hl.1 (lv_room (Nat.le_of_ble_eq_true rfl)) dX4_variable_42 ⟨Nat.zero_le _, Nat.zero_le _⟩ (fun H locs hB => ?_)
    refine lv_iconst (v := (-1 : Int32)) S.1 S.2.1 dX4_variable_45 (by decide) ?_
    obtain ⟨r_7, σ_7, e_7, h⟩ := b2s h
    refine cCallI S hK cKSc hKS hA (kX3_add e_7) (cwX4_149 S.2.2.2.2 (rm := rmX3_add) rfl rfl ⟨Nat.le_of_ble_eq_true rfl, Nat.le_of_ble_eq_true rfl⟩) hB 13 rfl rfl rfl hl.1 rfl (lv_room (Nat.le_of_ble_eq_true rfl)) dX4_variable_46 ⟨Nat.zero_le _, Nat.zero_le _⟩ (fun H locs hB => ?_)
    refine lv_istore_n (lv' := [(3, .int r_7), (2, .int r_2), (1, .int r_1), (0, .ref (ad 43))]) S.1 S.2.1 dX4_variable_49 rfl hl (by decide) rfl (fun ls hl => ?_)
    refine lv_aload_n S.1 S.2.1 dX4_variable_50 rfl (lv_at hl 3 rfl) ?_
    obtain ⟨_, σ_8, e_8, h⟩ := b2s h
    refine cCallV S hK cKSc hKS hA (kX4_advance e_8) (cwX4_75 S.2.2.2.2 (rm := rmX4_advance) rfl rfl ⟨Nat.le_of_ble_eq_true rfl, Nat.le_of_ble_eq_true rfl⟩) hB 43 rfl rfl rfl hl.1 rfl (lv_room (Nat.le_of_ble_eq_true rfl)) dX4_variable_51 ⟨Nat.zero_le _, Nat.zero_le _⟩ (fun H locs hB => ?_)
    refine lv_iload_n S.1 S.2.1 dX4_variable_54 rfl (lv_at hl 0 rfl) ?_
    cases h
    exact gRetI S.1 S.2.1 hr hlk hB dX4_variable_55
abbrev RCc : Type := Nat → Int32 → CS → Option (Int32 × CS)
abbrev rmSC4 (d : Nat) : Room := { frames := d + 20, cells := 0, slots := 0, locals := 40 * d + 400 }
def SC4 (l : Launch) (D : va_G) (cI cJ cQ : ClassId) (ad : Nat → Nat) (ra : Nat → Nat → Nat) (adK adV tK : Nat → Nat) (d : Nat) (rc : RCc) : Prop :=
  (∀ {a : Int32} {σ σ' : CS} {r : Int32}, rc 0 a σ = some (r, σ') → gMet l yX4_formula qX4_formula (rmSC4 d) 0 0 D vwCl [(cI, .int), (cJ, .long), (cQ, .array .long)] (cKS adK adV tK) [.ref (ad 43), .int a] (CW cI cJ cQ ad ra σ) (CW cI cJ cQ ad ra σ') (some (.int r))) ∧
  (∀ {a : Int32} {σ σ' : CS} {r : Int32}, rc 1 a σ = some (r, σ') → gMet l yX4_either qX4_either (rmSC4 d) 0 0 D vwCl [(cI, .int), (cJ, .long), (cQ, .array .long)] (cKS adK adV tK) [.ref (ad 43), .int a] (CW cI cJ cQ ad ra σ) (CW cI cJ cQ ad ra σ') (some (.int r))) ∧
  (∀ {a : Int32} {σ σ' : CS} {r : Int32}, rc 2 a σ = some (r, σ') → gMet l yX4_both qX4_both (rmSC4 d) 0 0 D vwCl [(cI, .int), (cJ, .long), (cQ, .array .long)] (cKS adK adV tK) [.ref (ad 43), .int a] (CW cI cJ cQ ad ra σ) (CW cI cJ cQ ad ra σ') (some (.int r))) ∧
  (∀ {a : Int32} {σ σ' : CS} {r : Int32}, rc 3 a σ = some (r, σ') → gMet l yX4_since qX4_since (rmSC4 d) 0 0 D vwCl [(cI, .int), (cJ, .long), (cQ, .array .long)] (cKS adK adV tK) [.ref (ad 43), .int a] (CW cI cJ cQ ad ra σ) (CW cI cJ cQ ad ra σ') (some (.int r))) ∧
  (∀ {a : Int32} {σ σ' : CS} {r : Int32}, rc 4 a σ = some (r, σ') → gMet l yX4_one qX4_one (rmSC4 d) 0 0 D vwCl [(cI, .int), (cJ, .long), (cQ, .array .long)] (cKS adK adV tK) [.ref (ad 43), .int a] (CW cI cJ cQ ad ra σ) (CW cI cJ cQ ad ra σ') (some (.int r))) ∧
  (∀ {a : Int32} {σ σ' : CS} {r : Int32}, rc 5 a σ = some (r, σ') → gMet l yX4_prefixed qX4_prefixed (rmSC4 d) 0 0 D vwCl [(cI, .int), (cJ, .long), (cQ, .array .long)] (cKS adK adV tK) [.ref (ad 43), .int a] (CW cI cJ cQ ad ra σ) (CW cI cJ cQ ad ra σ') (some (.int r))) ∧
  (∀ {a : Int32} {σ σ' : CS} {r : Int32}, rc 6 a σ = some (r, σ') → gMet l yX4_braced qX4_braced (rmSC4 d) 0 0 D vwCl [(cI, .int), (cJ, .long), (cQ, .array .long)] (cKS adK adV tK) [.ref (ad 43), .int a] (CW cI cJ cQ ad ra σ) (CW cI cJ cQ ad ra σ') (some (.int r))) ∧
  (∀ {a : Int32} {σ σ' : CS} {r : Int32}, rc 7 a σ = some (r, σ') → gMet l yX4_compare qX4_compare (rmSC4 d) 0 0 D vwCl [(cI, .int), (cJ, .long), (cQ, .array .long)] (cKS adK adV tK) [.ref (ad 43), .int a] (CW cI cJ cQ ad ra σ) (CW cI cJ cQ ad ra σ') (some (.int r))) ∧
  (∀ {a : Int32} {σ σ' : CS} {r : Int32}, rc 8 a σ = some (r, σ') → gMet l yX4_expression qX4_expression (rmSC4 d) 0 0 D vwCl [(cI, .int), (cJ, .long), (cQ, .array .long)] (cKS adK adV tK) [.ref (ad 43), .int a] (CW cI cJ cQ ad ra σ) (CW cI cJ cQ ad ra σ') (some (.int r))) ∧
  (∀ {a : Int32} {σ σ' : CS} {r : Int32}, rc 9 a σ = some (r, σ') → gMet l yX4_product qX4_product (rmSC4 d) 0 0 D vwCl [(cI, .int), (cJ, .long), (cQ, .array .long)] (cKS adK adV tK) [.ref (ad 43), .int a] (CW cI cJ cQ ad ra σ) (CW cI cJ cQ ad ra σ') (some (.int r))) ∧
  (∀ {a : Int32} {σ σ' : CS} {r : Int32}, rc 10 a σ = some (r, σ') → gMet l yX4_factor qX4_factor (rmSC4 d) 0 0 D vwCl [(cI, .int), (cJ, .long), (cQ, .array .long)] (cKS adK adV tK) [.ref (ad 43), .int a] (CW cI cJ cQ ad ra σ) (CW cI cJ cQ ad ra σ') (some (.int r))) ∧
  (∀ {a : Int32} {σ σ' : CS} {r : Int32}, rc 11 a σ = some (r, σ') → gMet l yX4_bracketed qX4_bracketed (rmSC4 d) 0 0 D vwCl [(cI, .int), (cJ, .long), (cQ, .array .long)] (cKS adK adV tK) [.ref (ad 43), .int a] (CW cI cJ cQ ad ra σ) (CW cI cJ cQ ad ra σ') (some (.int r))) ∧
  (∀ {a : Int32} {σ σ' : CS} {r : Int32}, rc 12 a σ = some (r, σ') → gMet l yX4_prefixedFactor qX4_prefixedFactor (rmSC4 d) 0 0 D vwCl [(cI, .int), (cJ, .long), (cQ, .array .long)] (cKS adK adV tK) [.ref (ad 43), .int a] (CW cI cJ cQ ad ra σ) (CW cI cJ cQ ad ra σ') (some (.int r))) ∧
  (∀ {a : Int32} {σ σ' : CS} {r : Int32}, rc 13 a σ = some (r, σ') → gMet l yX4_factorOfFormula qX4_factorOfFormula (rmSC4 d) 0 0 D vwCl [(cI, .int), (cJ, .long), (cQ, .array .long)] (cKS adK adV tK) [.ref (ad 43), .int a] (CW cI cJ cQ ad ra σ) (CW cI cJ cQ ad ra σ') (some (.int r)))
def FX4_formula_62 (rc : RCc) (L : Nat) (k14 : Int32 → Int32 → Int32 → Int32 → CS → Option (Int32 × CS)) (x1 : Int32) (x2 : Int32) (x3 : Int32) (x4 : Int32) (x5 : Int32) (y1 : Int32) (σ1 : CS) : Option (Int32 × CS) :=
    b2 (FX3_add y1 x2 x3 x5 σ1) fun r_7 σ_7 =>
    k14 x1 x2 r_7 (x4 + (1 : Int32)) σ_7
def FX4_formula_14 (rc : RCc) (L : Nat)  : Nat → Int32 → Int32 → Int32 → Int32 → CS → Option (Int32 × CS)
  | 0, _, _, _, _, _ => none
  | n+1, x1, x2, x3, x4, σ1 =>
    if (400 : Int32) ≤ x4 then
      some (x3, σ1)
    else
      if (σ1.1 4304) = (14 : Int32) then
        b2 (FX4_advance σ1) fun (_ : Unit) σ_4 =>
        b2 (rc 1 x1 σ_4) fun r_5 σ_5 =>
        if (σ_5.1 4304) = (14 : Int32) then
          FX4_formula_62 rc L (FX4_formula_14 rc L n) x1 x2 x3 x4 r_5 (12 : Int32) σ_5
        else
          FX4_formula_62 rc L (FX4_formula_14 rc L n) x1 x2 x3 x4 r_5 (14 : Int32) σ_5
      else
        some (x3, σ1)
def FX4_formula (rc : RCc) (L : Nat) (p0 : Int32) (σ : CS) : Option (Int32 × CS) :=
  b2 (rc 1 p0 σ) fun r_1 σ_1 =>
  FX4_formula_14 rc L L p0 (σ.1 4305) r_1 (0 : Int32) σ_1
set_option maxRecDepth 100000 in
set_option maxHeartbeats 4000000 in
theorem kX4_formula {l : Launch} {D : va_G} {cI cJ cQ : ClassId} {ad : Nat → Nat} {ra : Nat → Nat → Nat} {adK adV tK : Nat → Nat} {L : Nat} {d : Nat} {rc : RCc} (hrc : SC4 l D cI cJ cQ ad ra adK adV tK d rc) {p0 : Int32} {σ σ' : CS} {r : Int32} (h : FX4_formula rc L p0 σ = some (r, σ')) : gMet l yX4_formula qX4_formula (rmSC4 (d + 1)) 0 0 D vwCl [(cI, .int), (cJ, .long), (cQ, .array .long)] (cKS adK adV tK) [.ref (ad 43), .int p0] (CW cI cJ cQ ad ra σ) (CW cI cJ cQ ad ra σ') (some (.int r)) := by
  refine gMet.of (cc := cX4_formula) (maxL := 6) (ret := (some .int)) (by decide) rfl (Nat.le_of_ble_eq_true rfl) ?_
  intro p e s m args below meth c S hr hlk hnm hK hKS hA hB ls hl
  have hl : lv_has ls 6 [(0, .ref (ad 43)), (1, .int p0)] := hl
  replace S : CallFix p m c cX4_formula 6 s args (_ :: wsL_law) RX4 := S
  rw [FX4_formula] at h
  have P62 : ∀ (k14 : Int32 → Int32 → Int32 → Int32 → CS → Option (Int32 × CS)) (hk14 : ∀ (x1 : Int32) (x2 : Int32) (x3 : Int32) (x4 : Int32) (σ1 : CS) (H : Heap) (locs : List Loc) (ls : Array Slot), k14 x1 x2 x3 x4 σ1 = some (r, σ') → gB D vwCl (va_A (CW cI cJ cQ ad ra σ) s.heap.size) s.heap (CW cI cJ cQ ad ra σ1) [] H locs → lv_has ls 6 [(0, .ref (ad 43)), (1, .int x1), (2, .int x2), (3, .int x3), (4, .int x4)] → W p l e (rmSC4 (d + 1)) s m args below meth c H locs 0 0 (MQ below (gQ D vwCl (CW cI cJ cQ ad ra σ) (CW cI cJ cQ ad ra σ') (some (.int r)) s.heap.size) args s 0 0 (va_A (CW cI cJ cQ ad ra σ) s.heap.size)) (F0 m 14 ls [])), ∀ (x1 : Int32) (x2 : Int32) (x3 : Int32) (x4 : Int32) (x5 : Int32) (y1 : Int32) (σ1 : CS) (H : Heap) (locs : List Loc) (ls : Array Slot), FX4_formula_62 rc L k14 x1 x2 x3 x4 x5 y1 σ1 = some (r, σ') → gB D vwCl (va_A (CW cI cJ cQ ad ra σ) s.heap.size) s.heap (CW cI cJ cQ ad ra σ1) [] H locs → lv_has ls 6 [(0, .ref (ad 43)), (1, .int x1), (2, .int x2), (3, .int x3), (4, .int x4), (5, .int x5)] → W p l e (rmSC4 (d + 1)) s m args below meth c H locs 0 0 (MQ below (gQ D vwCl (CW cI cJ cQ ad ra σ) (CW cI cJ cQ ad ra σ') (some (.int r)) s.heap.size) args s 0 0 (va_A (CW cI cJ cQ ad ra σ) s.heap.size)) (F0 m 62 ls [.int y1, .ref (ad 13)]) := by
    intro k14 hk14 x1 x2 x3 x4 x5 y1 σ1 H locs ls h hB hl
    rw [FX4_formula_62] at h
    refine lv_iload_n S.1 S.2.1 dX4_formula_62 rfl (lv_at hl 2 rfl) ?_
    refine lv_iload_n S.1 S.2.1 dX4_formula_63 rfl (lv_at hl 3 rfl) ?_
    refine lv_iload S.1 S.2.1 dX4_formula_64 (lv_at hl 5 rfl) ?_
    obtain ⟨r_7, σ_7, e_7, h⟩ := b2s h
    refine cCallI S hK cKSc hKS hA (kX3_add e_7) (cwX4_149 S.2.2.2.2 (rm := rmX3_add) rfl rfl ⟨by dsimp only [rmSC4, rmX3_add]; omega, by dsimp only [rmSC4, rmX3_add]; omega⟩) hB 13 rfl rfl rfl hl.1 rfl (lv_room (Nat.le_of_ble_eq_true rfl)) dX4_formula_66 ⟨Nat.zero_le _, Nat.zero_le _⟩ (fun H locs hB => ?_)
    refine lv_istore_n (lv' := [(3, .int r_7), (0, .ref (ad 43)), (1, .int x1), (2, .int x2), (4, .int x4), (5, .int x5)]) S.1 S.2.1 dX4_formula_69 rfl hl (by decide) rfl (fun ls hl => ?_)
    refine lv_iinc (v := (x4 + (1 : Int32))) (lv' := [(4, .int (x4 + (1 : Int32))), (3, .int r_7), (0, .ref (ad 43)), (1, .int x1), (2, .int x2), (5, .int x5)]) S.1 S.2.1 dX4_formula_70 hl (k := 4) rfl rfl (by decide) rfl (fun ls hl => ?_)
    refine lv_goto (tgt := 14) S.1 S.2.1 dX4_formula_73 (by decide) ?_
    exact hk14 _ _ _ _ _ _ _ _ h hB (lv_sub hl [2, 3, 4, 1, 0] rfl)
  have P14 : ∀  (n : Nat), ∀ (x1 : Int32) (x2 : Int32) (x3 : Int32) (x4 : Int32) (σ1 : CS) (H : Heap) (locs : List Loc) (ls : Array Slot), FX4_formula_14 rc L n x1 x2 x3 x4 σ1 = some (r, σ') → gB D vwCl (va_A (CW cI cJ cQ ad ra σ) s.heap.size) s.heap (CW cI cJ cQ ad ra σ1) [] H locs → lv_has ls 6 [(0, .ref (ad 43)), (1, .int x1), (2, .int x2), (3, .int x3), (4, .int x4)] → W p l e (rmSC4 (d + 1)) s m args below meth c H locs 0 0 (MQ below (gQ D vwCl (CW cI cJ cQ ad ra σ) (CW cI cJ cQ ad ra σ') (some (.int r)) s.heap.size) args s 0 0 (va_A (CW cI cJ cQ ad ra σ) s.heap.size)) (F0 m 14 ls []) := by
    intro n
    induction n with
    | zero => intro x1 x2 x3 x4 σ1 H locs ls h; simp only [FX4_formula_14] at h; cases h
    | succ n ih =>
      intro x1 x2 x3 x4 σ1 H locs ls h hB hl
      rw [FX4_formula_14] at h
      refine lv_iload S.1 S.2.1 dX4_formula_14 (lv_at hl 4 rfl) ?_
      refine lv_sipush (v := (400 : Int32)) S.1 S.2.1 dX4_formula_16 (by decide) ?_
      refine lv_icmp_ge (tgt := 76) S.1 S.2.1 dX4_formula_19 (by decide) (fun c_2 => ?_) (fun c_2 => ?_)
      · replace h := (if_pos c_2).symm.trans h
        refine lv_iload_n S.1 S.2.1 dX4_formula_76 rfl (lv_at hl 3 rfl) ?_
        cases h
        exact gRetI S.1 S.2.1 hr hlk hB dX4_formula_77
      · replace h := (if_neg c_2).symm.trans h
        refine lv_aload_n S.1 S.2.1 dX4_formula_22 rfl (lv_at hl 0 rfl) ?_
        refine tg_43_4 S hK hB (S.2.2.2.2 _ (List.mem_cons_of_mem _ wf_X4_34)) rfl dX4_formula_23 ?_
        refine lv_bipush (v := (14 : Int32)) S.1 S.2.1 dX4_formula_26 (by decide) ?_
        refine lv_icmp_ne (tgt := 76) S.1 S.2.1 dX4_formula_28 (by decide) (fun c_3 => ?_) (fun c_3 => ?_)
        · replace h := (if_neg c_3).symm.trans h
          refine lv_iload_n S.1 S.2.1 dX4_formula_76 rfl (lv_at hl 3 rfl) ?_
          cases h
          exact gRetI S.1 S.2.1 hr hlk hB dX4_formula_77
        · replace h := (if_pos c_3).symm.trans h
          refine lv_aload_n S.1 S.2.1 dX4_formula_31 rfl (lv_at hl 0 rfl) ?_
          obtain ⟨_, σ_4, e_4, h⟩ := b2s h
          refine cCallV S hK cKSc hKS hA (kX4_advance e_4) (cwX4_75 S.2.2.2.2 (rm := rmX4_advance) rfl rfl ⟨by dsimp only [rmSC4, rmX4_advance]; omega, by dsimp only [rmSC4, rmX4_advance]; omega⟩) hB 43 rfl rfl rfl hl.1 rfl (lv_room (Nat.le_of_ble_eq_true rfl)) dX4_formula_32 ⟨Nat.zero_le _, Nat.zero_le _⟩ (fun H locs hB => ?_)
          refine lv_aload_n S.1 S.2.1 dX4_formula_35 rfl (lv_at hl 0 rfl) ?_
          refine lv_iload_n S.1 S.2.1 dX4_formula_36 rfl (lv_at hl 1 rfl) ?_
          obtain ⟨r_5, σ_5, e_5, h⟩ := b2s h
          refine cCallI S hK cKSc hKS hA (hrc.2.1 e_5) (cwX4_146 S.2.2.2.2 (rm := (rmSC4 d)) rfl rfl ⟨by dsimp only [rmSC4]; omega, by dsimp only [rmSC4]; omega⟩) hB 43 rfl rfl rfl hl.1 rfl (lv_room (Nat.le_of_ble_eq_true rfl)) dX4_formula_37 ⟨Nat.zero_le _, Nat.zero_le _⟩ (fun H locs hB => ?_)
          refine lv_istore (lv' := [(5, .int r_5), (0, .ref (ad 43)), (1, .int x1), (2, .int x2), (3, .int x3), (4, .int x4)]) S.1 S.2.1 dX4_formula_40 hl (by decide) rfl (fun ls hl => ?_)
          refine lv_aload_n S.1 S.2.1 dX4_formula_42 rfl (lv_at hl 1 rfl) ?_
          refine tg_43_1 S hK hB (S.2.2.2.2 _ (List.mem_cons_of_mem _ wf_X4_15)) dX4_formula_43 ?_
          refine lv_aload_n S.1 S.2.1 dX4_formula_46 rfl (lv_at hl 1 rfl) ?_
          refine tg_43_4 S hK hB (S.2.2.2.2 _ (List.mem_cons_of_mem _ wf_X4_34)) rfl dX4_formula_47 ?_
          refine lv_bipush (v := (14 : Int32)) S.1 S.2.1 dX4_formula_50 (by decide) ?_
          refine lv_icmp_ne (tgt := 60) S.1 S.2.1 dX4_formula_52 (by decide) (fun c_6 => ?_) (fun c_6 => ?_)
          · replace h := (if_neg c_6).symm.trans h
            refine lv_bipush (v := (14 : Int32)) S.1 S.2.1 dX4_formula_60 (by decide) ?_
            exact P62 (FX4_formula_14 rc L n) ih _ _ _ _ _ _ _ _ _ _ h hB (lv_sub hl [1, 2, 3, 4, 5, 0] rfl)
          · replace h := (if_pos c_6).symm.trans h
            refine lv_bipush (v := (12 : Int32)) S.1 S.2.1 dX4_formula_55 (by decide) ?_
            refine lv_goto (tgt := 62) S.1 S.2.1 dX4_formula_57 (by decide) ?_
            exact P62 (FX4_formula_14 rc L n) ih _ _ _ _ _ _ _ _ _ _ h hB (lv_sub hl [1, 2, 3, 4, 5, 0] rfl)
  refine lv_aload_n S.1 S.2.1 dX4_formula_0 rfl (lv_at hl 0 rfl) ?_
  refine tg_43_5 S hK hB (S.2.2.2.2 _ (List.mem_cons_of_mem _ wf_X4_53)) rfl dX4_formula_1 ?_
  refine lv_istore_n (lv' := [(2, .int (σ.1 4305)), (0, .ref (ad 43)), (1, .int p0)]) S.1 S.2.1 dX4_formula_4 rfl hl (by decide) rfl (fun ls hl => ?_)
  refine lv_aload_n S.1 S.2.1 dX4_formula_5 rfl (lv_at hl 1 rfl) ?_
  refine lv_iload_n S.1 S.2.1 dX4_formula_6 rfl (lv_at hl 2 rfl) ?_
  obtain ⟨r_1, σ_1, e_1, h⟩ := b2s h
  refine cCallI S hK cKSc hKS hA (hrc.2.1 e_1) (cwX4_146 S.2.2.2.2 (rm := (rmSC4 d)) rfl rfl ⟨by dsimp only [rmSC4]; omega, by dsimp only [rmSC4]; omega⟩) hB 43 rfl rfl rfl hl.1 rfl (lv_room (Nat.le_of_ble_eq_true rfl)) dX4_formula_7 ⟨Nat.zero_le _, Nat.zero_le _⟩ (fun H locs hB => ?_)
  refine lv_istore_n (lv' := [(3, .int r_1), (2, .int (σ.1 4305)), (0, .ref (ad 43)), (1, .int p0)]) S.1 S.2.1 dX4_formula_10 rfl hl (by decide) rfl (fun ls hl => ?_)
  refine lv_iconst (v := (0 : Int32)) S.1 S.2.1 dX4_formula_11 (by decide) ?_
  refine lv_istore (lv' := [(4, .int (0 : Int32)), (3, .int r_1), (2, .int (σ.1 4305)), (0, .ref (ad 43)), (1, .int p0)]) S.1 S.2.1 dX4_formula_12 hl (by decide) rfl (fun ls hl => ?_)
  exact P14  L _ _ _ _ _ _ _ _ h hB (lv_sub hl [3, 4, 2, 1, 0] rfl)
def FX4_either_14 (rc : RCc) (L : Nat)  : Nat → Int32 → Int32 → Int32 → Int32 → CS → Option (Int32 × CS)
  | 0, _, _, _, _, _ => none
  | n+1, x1, x2, x3, x4, σ1 =>
    if (400 : Int32) ≤ x4 then
      some (x3, σ1)
    else
      if (σ1.1 4304) = (13 : Int32) then
        b2 (FX4_advance σ1) fun (_ : Unit) σ_4 =>
        b2 (rc 2 x1 σ_4) fun r_5 σ_5 =>
        b2 (FX3_add (13 : Int32) x2 x3 r_5 σ_5) fun r_6 σ_6 =>
        (FX4_either_14 rc L n) x1 x2 r_6 (x4 + (1 : Int32)) σ_6
      else
        some (x3, σ1)
def FX4_either (rc : RCc) (L : Nat) (p0 : Int32) (σ : CS) : Option (Int32 × CS) :=
  b2 (rc 2 p0 σ) fun r_1 σ_1 =>
  FX4_either_14 rc L L p0 (σ.1 4305) r_1 (0 : Int32) σ_1
set_option maxRecDepth 100000 in
set_option maxHeartbeats 4000000 in
theorem kX4_either {l : Launch} {D : va_G} {cI cJ cQ : ClassId} {ad : Nat → Nat} {ra : Nat → Nat → Nat} {adK adV tK : Nat → Nat} {L : Nat} {d : Nat} {rc : RCc} (hrc : SC4 l D cI cJ cQ ad ra adK adV tK d rc) {p0 : Int32} {σ σ' : CS} {r : Int32} (h : FX4_either rc L p0 σ = some (r, σ')) : gMet l yX4_either qX4_either (rmSC4 (d + 1)) 0 0 D vwCl [(cI, .int), (cJ, .long), (cQ, .array .long)] (cKS adK adV tK) [.ref (ad 43), .int p0] (CW cI cJ cQ ad ra σ) (CW cI cJ cQ ad ra σ') (some (.int r)) := by
  refine gMet.of (cc := cX4_either) (maxL := 6) (ret := (some .int)) (by decide) rfl (Nat.le_of_ble_eq_true rfl) ?_
  intro p e s m args below meth c S hr hlk hnm hK hKS hA hB ls hl
  have hl : lv_has ls 6 [(0, .ref (ad 43)), (1, .int p0)] := hl
  replace S : CallFix p m c cX4_either 6 s args (_ :: wsL_law) RX4 := S
  rw [FX4_either] at h
  have P14 : ∀  (n : Nat), ∀ (x1 : Int32) (x2 : Int32) (x3 : Int32) (x4 : Int32) (σ1 : CS) (H : Heap) (locs : List Loc) (ls : Array Slot), FX4_either_14 rc L n x1 x2 x3 x4 σ1 = some (r, σ') → gB D vwCl (va_A (CW cI cJ cQ ad ra σ) s.heap.size) s.heap (CW cI cJ cQ ad ra σ1) [] H locs → lv_has ls 6 [(0, .ref (ad 43)), (1, .int x1), (2, .int x2), (3, .int x3), (4, .int x4)] → W p l e (rmSC4 (d + 1)) s m args below meth c H locs 0 0 (MQ below (gQ D vwCl (CW cI cJ cQ ad ra σ) (CW cI cJ cQ ad ra σ') (some (.int r)) s.heap.size) args s 0 0 (va_A (CW cI cJ cQ ad ra σ) s.heap.size)) (F0 m 14 ls []) := by
    intro n
    induction n with
    | zero => intro x1 x2 x3 x4 σ1 H locs ls h; simp only [FX4_either_14] at h; cases h
    | succ n ih =>
      intro x1 x2 x3 x4 σ1 H locs ls h hB hl
      rw [FX4_either_14] at h
      refine lv_iload S.1 S.2.1 dX4_either_14 (lv_at hl 4 rfl) ?_
      refine lv_sipush (v := (400 : Int32)) S.1 S.2.1 dX4_either_16 (by decide) ?_
      refine lv_icmp_ge (tgt := 62) S.1 S.2.1 dX4_either_19 (by decide) (fun c_2 => ?_) (fun c_2 => ?_)
      · replace h := (if_pos c_2).symm.trans h
        refine lv_iload_n S.1 S.2.1 dX4_either_62 rfl (lv_at hl 3 rfl) ?_
        cases h
        exact gRetI S.1 S.2.1 hr hlk hB dX4_either_63
      · replace h := (if_neg c_2).symm.trans h
        refine lv_aload_n S.1 S.2.1 dX4_either_22 rfl (lv_at hl 0 rfl) ?_
        refine tg_43_4 S hK hB (S.2.2.2.2 _ (List.mem_cons_of_mem _ wf_X4_34)) rfl dX4_either_23 ?_
        refine lv_bipush (v := (13 : Int32)) S.1 S.2.1 dX4_either_26 (by decide) ?_
        refine lv_icmp_ne (tgt := 62) S.1 S.2.1 dX4_either_28 (by decide) (fun c_3 => ?_) (fun c_3 => ?_)
        · replace h := (if_neg c_3).symm.trans h
          refine lv_iload_n S.1 S.2.1 dX4_either_62 rfl (lv_at hl 3 rfl) ?_
          cases h
          exact gRetI S.1 S.2.1 hr hlk hB dX4_either_63
        · replace h := (if_pos c_3).symm.trans h
          refine lv_aload_n S.1 S.2.1 dX4_either_31 rfl (lv_at hl 0 rfl) ?_
          obtain ⟨_, σ_4, e_4, h⟩ := b2s h
          refine cCallV S hK cKSc hKS hA (kX4_advance e_4) (cwX4_75 S.2.2.2.2 (rm := rmX4_advance) rfl rfl ⟨by dsimp only [rmSC4, rmX4_advance]; omega, by dsimp only [rmSC4, rmX4_advance]; omega⟩) hB 43 rfl rfl rfl hl.1 rfl (lv_room (Nat.le_of_ble_eq_true rfl)) dX4_either_32 ⟨Nat.zero_le _, Nat.zero_le _⟩ (fun H locs hB => ?_)
          refine lv_aload_n S.1 S.2.1 dX4_either_35 rfl (lv_at hl 0 rfl) ?_
          refine lv_iload_n S.1 S.2.1 dX4_either_36 rfl (lv_at hl 1 rfl) ?_
          obtain ⟨r_5, σ_5, e_5, h⟩ := b2s h
          refine cCallI S hK cKSc hKS hA (hrc.2.2.1 e_5) (cwX4_152 S.2.2.2.2 (rm := (rmSC4 d)) rfl rfl ⟨by dsimp only [rmSC4]; omega, by dsimp only [rmSC4]; omega⟩) hB 43 rfl rfl rfl hl.1 rfl (lv_room (Nat.le_of_ble_eq_true rfl)) dX4_either_37 ⟨Nat.zero_le _, Nat.zero_le _⟩ (fun H locs hB => ?_)
          refine lv_istore (lv' := [(5, .int r_5), (0, .ref (ad 43)), (1, .int x1), (2, .int x2), (3, .int x3), (4, .int x4)]) S.1 S.2.1 dX4_either_40 hl (by decide) rfl (fun ls hl => ?_)
          refine lv_aload_n S.1 S.2.1 dX4_either_42 rfl (lv_at hl 1 rfl) ?_
          refine tg_43_1 S hK hB (S.2.2.2.2 _ (List.mem_cons_of_mem _ wf_X4_15)) dX4_either_43 ?_
          refine lv_bipush (v := (13 : Int32)) S.1 S.2.1 dX4_either_46 (by decide) ?_
          refine lv_iload_n S.1 S.2.1 dX4_either_48 rfl (lv_at hl 3 rfl) ?_
          refine lv_iload_n S.1 S.2.1 dX4_either_49 rfl (lv_at hl 4 rfl) ?_
          refine lv_iload S.1 S.2.1 dX4_either_50 (lv_at hl 0 rfl) ?_
          obtain ⟨r_6, σ_6, e_6, h⟩ := b2s h
          refine cCallI S hK cKSc hKS hA (kX3_add e_6) (cwX4_149 S.2.2.2.2 (rm := rmX3_add) rfl rfl ⟨by dsimp only [rmSC4, rmX3_add]; omega, by dsimp only [rmSC4, rmX3_add]; omega⟩) hB 13 rfl rfl rfl hl.1 rfl (lv_room (Nat.le_of_ble_eq_true rfl)) dX4_either_52 ⟨Nat.zero_le _, Nat.zero_le _⟩ (fun H locs hB => ?_)
          refine lv_istore_n (lv' := [(3, .int r_6), (5, .int r_5), (0, .ref (ad 43)), (1, .int x1), (2, .int x2), (4, .int x4)]) S.1 S.2.1 dX4_either_55 rfl hl (by decide) rfl (fun ls hl => ?_)
          refine lv_iinc (v := (x4 + (1 : Int32))) (lv' := [(4, .int (x4 + (1 : Int32))), (3, .int r_6), (5, .int r_5), (0, .ref (ad 43)), (1, .int x1), (2, .int x2)]) S.1 S.2.1 dX4_either_56 hl (k := 5) rfl rfl (by decide) rfl (fun ls hl => ?_)
          refine lv_goto (tgt := 14) S.1 S.2.1 dX4_either_59 (by decide) ?_
          exact ih _ _ _ _ _ _ _ _ h hB (lv_sub hl [3, 4, 5, 1, 0] rfl)
  refine lv_aload_n S.1 S.2.1 dX4_either_0 rfl (lv_at hl 0 rfl) ?_
  refine tg_43_5 S hK hB (S.2.2.2.2 _ (List.mem_cons_of_mem _ wf_X4_53)) rfl dX4_either_1 ?_
  refine lv_istore_n (lv' := [(2, .int (σ.1 4305)), (0, .ref (ad 43)), (1, .int p0)]) S.1 S.2.1 dX4_either_4 rfl hl (by decide) rfl (fun ls hl => ?_)
  refine lv_aload_n S.1 S.2.1 dX4_either_5 rfl (lv_at hl 1 rfl) ?_
  refine lv_iload_n S.1 S.2.1 dX4_either_6 rfl (lv_at hl 2 rfl) ?_
  obtain ⟨r_1, σ_1, e_1, h⟩ := b2s h
  refine cCallI S hK cKSc hKS hA (hrc.2.2.1 e_1) (cwX4_152 S.2.2.2.2 (rm := (rmSC4 d)) rfl rfl ⟨by dsimp only [rmSC4]; omega, by dsimp only [rmSC4]; omega⟩) hB 43 rfl rfl rfl hl.1 rfl (lv_room (Nat.le_of_ble_eq_true rfl)) dX4_either_7 ⟨Nat.zero_le _, Nat.zero_le _⟩ (fun H locs hB => ?_)
  refine lv_istore_n (lv' := [(3, .int r_1), (2, .int (σ.1 4305)), (0, .ref (ad 43)), (1, .int p0)]) S.1 S.2.1 dX4_either_10 rfl hl (by decide) rfl (fun ls hl => ?_)
  refine lv_iconst (v := (0 : Int32)) S.1 S.2.1 dX4_either_11 (by decide) ?_
  refine lv_istore (lv' := [(4, .int (0 : Int32)), (3, .int r_1), (2, .int (σ.1 4305)), (0, .ref (ad 43)), (1, .int p0)]) S.1 S.2.1 dX4_either_12 hl (by decide) rfl (fun ls hl => ?_)
  exact P14  L _ _ _ _ _ _ _ _ h hB (lv_sub hl [3, 4, 2, 1, 0] rfl)
def FX4_both_14 (rc : RCc) (L : Nat)  : Nat → Int32 → Int32 → Int32 → Int32 → CS → Option (Int32 × CS)
  | 0, _, _, _, _, _ => none
  | n+1, x1, x2, x3, x4, σ1 =>
    if (400 : Int32) ≤ x4 then
      some (x3, σ1)
    else
      if (σ1.1 4304) = (12 : Int32) then
        b2 (FX4_advance σ1) fun (_ : Unit) σ_4 =>
        b2 (rc 3 x1 σ_4) fun r_5 σ_5 =>
        b2 (FX3_add (12 : Int32) x2 x3 r_5 σ_5) fun r_6 σ_6 =>
        (FX4_both_14 rc L n) x1 x2 r_6 (x4 + (1 : Int32)) σ_6
      else
        some (x3, σ1)
def FX4_both (rc : RCc) (L : Nat) (p0 : Int32) (σ : CS) : Option (Int32 × CS) :=
  b2 (rc 3 p0 σ) fun r_1 σ_1 =>
  FX4_both_14 rc L L p0 (σ.1 4305) r_1 (0 : Int32) σ_1
set_option maxRecDepth 100000 in
set_option maxHeartbeats 4000000 in
theorem kX4_both {l : Launch} {D : va_G} {cI cJ cQ : ClassId} {ad : Nat → Nat} {ra : Nat → Nat → Nat} {adK adV tK : Nat → Nat} {L : Nat} {d : Nat} {rc : RCc} (hrc : SC4 l D cI cJ cQ ad ra adK adV tK d rc) {p0 : Int32} {σ σ' : CS} {r : Int32} (h : FX4_both rc L p0 σ = some (r, σ')) : gMet l yX4_both qX4_both (rmSC4 (d + 1)) 0 0 D vwCl [(cI, .int), (cJ, .long), (cQ, .array .long)] (cKS adK adV tK) [.ref (ad 43), .int p0] (CW cI cJ cQ ad ra σ) (CW cI cJ cQ ad ra σ') (some (.int r)) := by
  refine gMet.of (cc := cX4_both) (maxL := 6) (ret := (some .int)) (by decide) rfl (Nat.le_of_ble_eq_true rfl) ?_
  intro p e s m args below meth c S hr hlk hnm hK hKS hA hB ls hl
  have hl : lv_has ls 6 [(0, .ref (ad 43)), (1, .int p0)] := hl
  replace S : CallFix p m c cX4_both 6 s args (_ :: wsL_law) RX4 := S
  rw [FX4_both] at h
  have P14 : ∀  (n : Nat), ∀ (x1 : Int32) (x2 : Int32) (x3 : Int32) (x4 : Int32) (σ1 : CS) (H : Heap) (locs : List Loc) (ls : Array Slot), FX4_both_14 rc L n x1 x2 x3 x4 σ1 = some (r, σ') → gB D vwCl (va_A (CW cI cJ cQ ad ra σ) s.heap.size) s.heap (CW cI cJ cQ ad ra σ1) [] H locs → lv_has ls 6 [(0, .ref (ad 43)), (1, .int x1), (2, .int x2), (3, .int x3), (4, .int x4)] → W p l e (rmSC4 (d + 1)) s m args below meth c H locs 0 0 (MQ below (gQ D vwCl (CW cI cJ cQ ad ra σ) (CW cI cJ cQ ad ra σ') (some (.int r)) s.heap.size) args s 0 0 (va_A (CW cI cJ cQ ad ra σ) s.heap.size)) (F0 m 14 ls []) := by
    intro n
    induction n with
    | zero => intro x1 x2 x3 x4 σ1 H locs ls h; simp only [FX4_both_14] at h; cases h
    | succ n ih =>
      intro x1 x2 x3 x4 σ1 H locs ls h hB hl
      rw [FX4_both_14] at h
      refine lv_iload S.1 S.2.1 dX4_both_14 (lv_at hl 4 rfl) ?_
      refine lv_sipush (v := (400 : Int32)) S.1 S.2.1 dX4_both_16 (by decide) ?_
      refine lv_icmp_ge (tgt := 62) S.1 S.2.1 dX4_both_19 (by decide) (fun c_2 => ?_) (fun c_2 => ?_)
      · replace h := (if_pos c_2).symm.trans h
        refine lv_iload_n S.1 S.2.1 dX4_both_62 rfl (lv_at hl 3 rfl) ?_
        cases h
        exact gRetI S.1 S.2.1 hr hlk hB dX4_both_63
      · replace h := (if_neg c_2).symm.trans h
        refine lv_aload_n S.1 S.2.1 dX4_both_22 rfl (lv_at hl 0 rfl) ?_
        refine tg_43_4 S hK hB (S.2.2.2.2 _ (List.mem_cons_of_mem _ wf_X4_34)) rfl dX4_both_23 ?_
        refine lv_bipush (v := (12 : Int32)) S.1 S.2.1 dX4_both_26 (by decide) ?_
        refine lv_icmp_ne (tgt := 62) S.1 S.2.1 dX4_both_28 (by decide) (fun c_3 => ?_) (fun c_3 => ?_)
        · replace h := (if_neg c_3).symm.trans h
          refine lv_iload_n S.1 S.2.1 dX4_both_62 rfl (lv_at hl 3 rfl) ?_
          cases h
          exact gRetI S.1 S.2.1 hr hlk hB dX4_both_63
        · replace h := (if_pos c_3).symm.trans h
          refine lv_aload_n S.1 S.2.1 dX4_both_31 rfl (lv_at hl 0 rfl) ?_
          obtain ⟨_, σ_4, e_4, h⟩ := b2s h
          refine cCallV S hK cKSc hKS hA (kX4_advance e_4) (cwX4_75 S.2.2.2.2 (rm := rmX4_advance) rfl rfl ⟨by dsimp only [rmSC4, rmX4_advance]; omega, by dsimp only [rmSC4, rmX4_advance]; omega⟩) hB 43 rfl rfl rfl hl.1 rfl (lv_room (Nat.le_of_ble_eq_true rfl)) dX4_both_32 ⟨Nat.zero_le _, Nat.zero_le _⟩ (fun H locs hB => ?_)
          refine lv_aload_n S.1 S.2.1 dX4_both_35 rfl (lv_at hl 0 rfl) ?_
          refine lv_iload_n S.1 S.2.1 dX4_both_36 rfl (lv_at hl 1 rfl) ?_
          obtain ⟨r_5, σ_5, e_5, h⟩ := b2s h
          refine cCallI S hK cKSc hKS hA (hrc.2.2.2.1 e_5) (cwX4_155 S.2.2.2.2 (rm := (rmSC4 d)) rfl rfl ⟨by dsimp only [rmSC4]; omega, by dsimp only [rmSC4]; omega⟩) hB 43 rfl rfl rfl hl.1 rfl (lv_room (Nat.le_of_ble_eq_true rfl)) dX4_both_37 ⟨Nat.zero_le _, Nat.zero_le _⟩ (fun H locs hB => ?_)
          refine lv_istore (lv' := [(5, .int r_5), (0, .ref (ad 43)), (1, .int x1), (2, .int x2), (3, .int x3), (4, .int x4)]) S.1 S.2.1 dX4_both_40 hl (by decide) rfl (fun ls hl => ?_)
          refine lv_aload_n S.1 S.2.1 dX4_both_42 rfl (lv_at hl 1 rfl) ?_
          refine tg_43_1 S hK hB (S.2.2.2.2 _ (List.mem_cons_of_mem _ wf_X4_15)) dX4_both_43 ?_
          refine lv_bipush (v := (12 : Int32)) S.1 S.2.1 dX4_both_46 (by decide) ?_
          refine lv_iload_n S.1 S.2.1 dX4_both_48 rfl (lv_at hl 3 rfl) ?_
          refine lv_iload_n S.1 S.2.1 dX4_both_49 rfl (lv_at hl 4 rfl) ?_
          refine lv_iload S.1 S.2.1 dX4_both_50 (lv_at hl 0 rfl) ?_
          obtain ⟨r_6, σ_6, e_6, h⟩ := b2s h
          refine cCallI S hK cKSc hKS hA (kX3_add e_6) (cwX4_149 S.2.2.2.2 (rm := rmX3_add) rfl rfl ⟨by dsimp only [rmSC4, rmX3_add]; omega, by dsimp only [rmSC4, rmX3_add]; omega⟩) hB 13 rfl rfl rfl hl.1 rfl (lv_room (Nat.le_of_ble_eq_true rfl)) dX4_both_52 ⟨Nat.zero_le _, Nat.zero_le _⟩ (fun H locs hB => ?_)
          refine lv_istore_n (lv' := [(3, .int r_6), (5, .int r_5), (0, .ref (ad 43)), (1, .int x1), (2, .int x2), (4, .int x4)]) S.1 S.2.1 dX4_both_55 rfl hl (by decide) rfl (fun ls hl => ?_)
          refine lv_iinc (v := (x4 + (1 : Int32))) (lv' := [(4, .int (x4 + (1 : Int32))), (3, .int r_6), (5, .int r_5), (0, .ref (ad 43)), (1, .int x1), (2, .int x2)]) S.1 S.2.1 dX4_both_56 hl (k := 5) rfl rfl (by decide) rfl (fun ls hl => ?_)
          refine lv_goto (tgt := 14) S.1 S.2.1 dX4_both_59 (by decide) ?_
          exact ih _ _ _ _ _ _ _ _ h hB (lv_sub hl [3, 4, 5, 1, 0] rfl)
  refine lv_aload_n S.1 S.2.1 dX4_both_0 rfl (lv_at hl 0 rfl) ?_
  refine tg_43_5 S hK hB (S.2.2.2.2 _ (List.mem_cons_of_mem _ wf_X4_53)) rfl dX4_both_1 ?_
  refine lv_istore_n (lv' := [(2, .int (σ.1 4305)), (0, .ref (ad 43)), (1, .int p0)]) S.1 S.2.1 dX4_both_4 rfl hl (by decide) rfl (fun ls hl => ?_)
  refine lv_aload_n S.1 S.2.1 dX4_both_5 rfl (lv_at hl 1 rfl) ?_
  refine lv_iload_n S.1 S.2.1 dX4_both_6 rfl (lv_at hl 2 rfl) ?_
  obtain ⟨r_1, σ_1, e_1, h⟩ := b2s h
  refine cCallI S hK cKSc hKS hA (hrc.2.2.2.1 e_1) (cwX4_155 S.2.2.2.2 (rm := (rmSC4 d)) rfl rfl ⟨by dsimp only [rmSC4]; omega, by dsimp only [rmSC4]; omega⟩) hB 43 rfl rfl rfl hl.1 rfl (lv_room (Nat.le_of_ble_eq_true rfl)) dX4_both_7 ⟨Nat.zero_le _, Nat.zero_le _⟩ (fun H locs hB => ?_)
  refine lv_istore_n (lv' := [(3, .int r_1), (2, .int (σ.1 4305)), (0, .ref (ad 43)), (1, .int p0)]) S.1 S.2.1 dX4_both_10 rfl hl (by decide) rfl (fun ls hl => ?_)
  refine lv_iconst (v := (0 : Int32)) S.1 S.2.1 dX4_both_11 (by decide) ?_
  refine lv_istore (lv' := [(4, .int (0 : Int32)), (3, .int r_1), (2, .int (σ.1 4305)), (0, .ref (ad 43)), (1, .int p0)]) S.1 S.2.1 dX4_both_12 hl (by decide) rfl (fun ls hl => ?_)
  exact P14  L _ _ _ _ _ _ _ _ h hB (lv_sub hl [3, 4, 2, 1, 0] rfl)
def FX4_since (rc : RCc) (p0 : Int32) (σ : CS) : Option (Int32 × CS) :=
  b2 (rc 4 p0 σ) fun r_1 σ_1 =>
  if (σ_1.1 4304) = (11 : Int32) then
    b2 (FX4_advance σ_1) fun (_ : Unit) σ_3 =>
    b2 (FX4_readBounds σ_3) fun (_ : Unit) σ_4 =>
    b2 (rc 4 p0 σ_4) fun r_5 σ_5 =>
    b2 (FX3_add (11 : Int32) (σ.1 4305) r_1 r_5 σ_5) fun r_6 σ_6 =>
    b2 (FX3_bound r_6 (σ_4.1 4310) (σ_4.1 4311) σ_6) fun (_ : Unit) σ_7 =>
    some (r_6, σ_7)
  else
    some (r_1, σ_1)
set_option maxRecDepth 100000 in
set_option maxHeartbeats 4000000 in
theorem kX4_since {l : Launch} {D : va_G} {cI cJ cQ : ClassId} {ad : Nat → Nat} {ra : Nat → Nat → Nat} {adK adV tK : Nat → Nat} {d : Nat} {rc : RCc} (hrc : SC4 l D cI cJ cQ ad ra adK adV tK d rc) {p0 : Int32} {σ σ' : CS} {r : Int32} (h : FX4_since rc p0 σ = some (r, σ')) : gMet l yX4_since qX4_since (rmSC4 (d + 1)) 0 0 D vwCl [(cI, .int), (cJ, .long), (cQ, .array .long)] (cKS adK adV tK) [.ref (ad 43), .int p0] (CW cI cJ cQ ad ra σ) (CW cI cJ cQ ad ra σ') (some (.int r)) := by
  refine gMet.of (cc := cX4_since) (maxL := 8) (ret := (some .int)) (by decide) rfl (Nat.le_of_ble_eq_true rfl) ?_
  intro p e s m args below meth c S hr hlk hnm hK hKS hA hB ls hl
  have hl : lv_has ls 8 [(0, .ref (ad 43)), (1, .int p0)] := hl
  replace S : CallFix p m c cX4_since 8 s args (_ :: wsL_law) RX4 := S
  rw [FX4_since] at h
  refine lv_aload_n S.1 S.2.1 dX4_since_0 rfl (lv_at hl 0 rfl) ?_
  refine tg_43_5 S hK hB (S.2.2.2.2 _ (List.mem_cons_of_mem _ wf_X4_53)) rfl dX4_since_1 ?_
  refine lv_istore_n (lv' := [(2, .int (σ.1 4305)), (0, .ref (ad 43)), (1, .int p0)]) S.1 S.2.1 dX4_since_4 rfl hl (by decide) rfl (fun ls hl => ?_)
  refine lv_aload_n S.1 S.2.1 dX4_since_5 rfl (lv_at hl 1 rfl) ?_
  refine lv_iload_n S.1 S.2.1 dX4_since_6 rfl (lv_at hl 2 rfl) ?_
  obtain ⟨r_1, σ_1, e_1, h⟩ := b2s h
  refine cCallI S hK cKSc hKS hA (hrc.2.2.2.2.1 e_1) (cwX4_158 S.2.2.2.2 (rm := (rmSC4 d)) rfl rfl ⟨by dsimp only [rmSC4]; omega, by dsimp only [rmSC4]; omega⟩) hB 43 rfl rfl rfl hl.1 rfl (lv_room (Nat.le_of_ble_eq_true rfl)) dX4_since_7 ⟨Nat.zero_le _, Nat.zero_le _⟩ (fun H locs hB => ?_)
  refine lv_istore_n (lv' := [(3, .int r_1), (2, .int (σ.1 4305)), (0, .ref (ad 43)), (1, .int p0)]) S.1 S.2.1 dX4_since_10 rfl hl (by decide) rfl (fun ls hl => ?_)
  refine lv_aload_n S.1 S.2.1 dX4_since_11 rfl (lv_at hl 2 rfl) ?_
  refine tg_43_4 S hK hB (S.2.2.2.2 _ (List.mem_cons_of_mem _ wf_X4_34)) rfl dX4_since_12 ?_
  refine lv_bipush (v := (11 : Int32)) S.1 S.2.1 dX4_since_15 (by decide) ?_
  refine lv_icmp_eq (tgt := 22) S.1 S.2.1 dX4_since_17 (by decide) (fun c_2 => ?_) (fun c_2 => ?_)
  · replace h := (if_pos c_2).symm.trans h
    refine lv_aload_n S.1 S.2.1 dX4_since_22 rfl (lv_at hl 2 rfl) ?_
    obtain ⟨_, σ_3, e_3, h⟩ := b2s h
    refine cCallV S hK cKSc hKS hA (kX4_advance e_3) (cwX4_75 S.2.2.2.2 (rm := rmX4_advance) rfl rfl ⟨by dsimp only [rmSC4, rmX4_advance]; omega, by dsimp only [rmSC4, rmX4_advance]; omega⟩) hB 43 rfl rfl rfl hl.1 rfl (lv_room (Nat.le_of_ble_eq_true rfl)) dX4_since_23 ⟨Nat.zero_le _, Nat.zero_le _⟩ (fun H locs hB => ?_)
    refine lv_aload_n S.1 S.2.1 dX4_since_26 rfl (lv_at hl 2 rfl) ?_
    obtain ⟨_, σ_4, e_4, h⟩ := b2s h
    refine cCallV S hK cKSc hKS hA (kX4_readBounds e_4) (cwX4_161 S.2.2.2.2 (rm := rmX4_readBounds) rfl rfl ⟨by dsimp only [rmSC4, rmX4_readBounds]; omega, by dsimp only [rmSC4, rmX4_readBounds]; omega⟩) hB 43 rfl rfl rfl hl.1 rfl (lv_room (Nat.le_of_ble_eq_true rfl)) dX4_since_27 ⟨Nat.zero_le _, Nat.zero_le _⟩ (fun H locs hB => ?_)
    refine lv_aload_n S.1 S.2.1 dX4_since_30 rfl (lv_at hl 2 rfl) ?_
    refine tg_43_10 S hK hB (S.2.2.2.2 _ (List.mem_cons_of_mem _ wf_X4_139)) rfl dX4_since_31 ?_
    refine lv_istore (lv' := [(4, .int (σ_4.1 4310)), (3, .int r_1), (2, .int (σ.1 4305)), (0, .ref (ad 43)), (1, .int p0)]) S.1 S.2.1 dX4_since_34 hl (by decide) rfl (fun ls hl => ?_)
    refine lv_aload_n S.1 S.2.1 dX4_since_36 rfl (lv_at hl 3 rfl) ?_
    refine tg_43_11 S hK hB (S.2.2.2.2 _ (List.mem_cons_of_mem _ wf_X4_143)) rfl dX4_since_37 ?_
    refine lv_istore (lv' := [(5, .int (σ_4.1 4311)), (4, .int (σ_4.1 4310)), (3, .int r_1), (2, .int (σ.1 4305)), (0, .ref (ad 43)), (1, .int p0)]) S.1 S.2.1 dX4_since_40 hl (by decide) rfl (fun ls hl => ?_)
    refine lv_aload_n S.1 S.2.1 dX4_since_42 rfl (lv_at hl 4 rfl) ?_
    refine lv_iload_n S.1 S.2.1 dX4_since_43 rfl (lv_at hl 5 rfl) ?_
    obtain ⟨r_5, σ_5, e_5, h⟩ := b2s h
    refine cCallI S hK cKSc hKS hA (hrc.2.2.2.2.1 e_5) (cwX4_158 S.2.2.2.2 (rm := (rmSC4 d)) rfl rfl ⟨by dsimp only [rmSC4]; omega, by dsimp only [rmSC4]; omega⟩) hB 43 rfl rfl rfl hl.1 rfl (lv_room (Nat.le_of_ble_eq_true rfl)) dX4_since_44 ⟨Nat.zero_le _, Nat.zero_le _⟩ (fun H locs hB => ?_)
    refine lv_istore (lv' := [(6, .int r_5), (5, .int (σ_4.1 4311)), (4, .int (σ_4.1 4310)), (3, .int r_1), (2, .int (σ.1 4305)), (0, .ref (ad 43)), (1, .int p0)]) S.1 S.2.1 dX4_since_47 hl (by decide) rfl (fun ls hl => ?_)
    refine lv_aload_n S.1 S.2.1 dX4_since_49 rfl (lv_at hl 5 rfl) ?_
    refine tg_43_1 S hK hB (S.2.2.2.2 _ (List.mem_cons_of_mem _ wf_X4_15)) dX4_since_50 ?_
    refine lv_bipush (v := (11 : Int32)) S.1 S.2.1 dX4_since_53 (by decide) ?_
    refine lv_iload_n S.1 S.2.1 dX4_since_55 rfl (lv_at hl 4 rfl) ?_
    refine lv_iload_n S.1 S.2.1 dX4_since_56 rfl (lv_at hl 3 rfl) ?_
    refine lv_iload S.1 S.2.1 dX4_since_57 (lv_at hl 0 rfl) ?_
    obtain ⟨r_6, σ_6, e_6, h⟩ := b2s h
    refine cCallI S hK cKSc hKS hA (kX3_add e_6) (cwX4_149 S.2.2.2.2 (rm := rmX3_add) rfl rfl ⟨by dsimp only [rmSC4, rmX3_add]; omega, by dsimp only [rmSC4, rmX3_add]; omega⟩) hB 13 rfl rfl rfl hl.1 rfl (lv_room (Nat.le_of_ble_eq_true rfl)) dX4_since_59 ⟨Nat.zero_le _, Nat.zero_le _⟩ (fun H locs hB => ?_)
    refine lv_istore (lv' := [(7, .int r_6), (6, .int r_5), (5, .int (σ_4.1 4311)), (4, .int (σ_4.1 4310)), (3, .int r_1), (2, .int (σ.1 4305)), (0, .ref (ad 43)), (1, .int p0)]) S.1 S.2.1 dX4_since_62 hl (by decide) rfl (fun ls hl => ?_)
    refine lv_aload_n S.1 S.2.1 dX4_since_64 rfl (lv_at hl 6 rfl) ?_
    refine tg_43_1 S hK hB (S.2.2.2.2 _ (List.mem_cons_of_mem _ wf_X4_15)) dX4_since_65 ?_
    refine lv_iload S.1 S.2.1 dX4_since_68 (lv_at hl 0 rfl) ?_
    refine lv_iload S.1 S.2.1 dX4_since_70 (lv_at hl 3 rfl) ?_
    refine lv_iload S.1 S.2.1 dX4_since_72 (lv_at hl 2 rfl) ?_
    obtain ⟨_, σ_7, e_7, h⟩ := b2s h
    refine cCallV S hK cKSc hKS hA (kX3_bound e_7) (cwX4_164 S.2.2.2.2 (rm := rmX3_bound) rfl rfl ⟨by dsimp only [rmSC4, rmX3_bound]; omega, by dsimp only [rmSC4, rmX3_bound]; omega⟩) hB 13 rfl rfl rfl hl.1 rfl (lv_room (Nat.le_of_ble_eq_true rfl)) dX4_since_74 ⟨Nat.zero_le _, Nat.zero_le _⟩ (fun H locs hB => ?_)
    refine lv_iload S.1 S.2.1 dX4_since_77 (lv_at hl 0 rfl) ?_
    cases h
    exact gRetI S.1 S.2.1 hr hlk hB dX4_since_79
  · replace h := (if_neg c_2).symm.trans h
    refine lv_iload_n S.1 S.2.1 dX4_since_20 rfl (lv_at hl 0 rfl) ?_
    cases h
    exact gRetI S.1 S.2.1 hr hlk hB dX4_since_21
def FX4_one (rc : RCc) (L : Nat) (p0 : Int32) (σ : CS) : Option (Int32 × CS) :=
  if (σ.1 4304) = 5 then
    b2 (rc 5 p0 σ) fun r_2 σ_2 =>
    some (r_2, σ_2)
  else if (σ.1 4304) = 6 then
    b2 (rc 5 p0 σ) fun r_4 σ_4 =>
    some (r_4, σ_4)
  else if (σ.1 4304) = 7 then
    b2 (rc 5 p0 σ) fun r_6 σ_6 =>
    some (r_6, σ_6)
  else if (σ.1 4304) = 8 then
    b2 (rc 5 p0 σ) fun r_8 σ_8 =>
    some (r_8, σ_8)
  else if (σ.1 4304) = 9 then
    b2 (rc 5 p0 σ) fun r_10 σ_10 =>
    some (r_10, σ_10)
  else if (σ.1 4304) = 10 then
    b2 (rc 5 p0 σ) fun r_12 σ_12 =>
    some (r_12, σ_12)
  else if (σ.1 4304) = 15 then
    b2 (FX4_named L σ) fun r_14 σ_14 =>
    some (r_14, σ_14)
  else if (σ.1 4304) = 16 then
    b2 (FX4_single (0 : Int32) σ) fun r_16 σ_16 =>
    some (r_16, σ_16)
  else if (σ.1 4304) = 17 then
    b2 (FX4_single (0 : Int32) σ) fun r_18 σ_18 =>
    some (r_18, σ_18)
  else if (σ.1 4304) = 32 then
    b2 (rc 6 p0 σ) fun r_20 σ_20 =>
    some (r_20, σ_20)
  else 
    b2 (rc 7 p0 σ) fun r_21 σ_21 =>
    some (r_21, σ_21)
set_option maxRecDepth 100000 in
set_option maxHeartbeats 4000000 in
theorem kX4_one {l : Launch} {D : va_G} {cI cJ cQ : ClassId} {ad : Nat → Nat} {ra : Nat → Nat → Nat} {adK adV tK : Nat → Nat} {L : Nat} {d : Nat} {rc : RCc} (hrc : SC4 l D cI cJ cQ ad ra adK adV tK d rc) {p0 : Int32} {σ σ' : CS} {r : Int32} (h : FX4_one rc L p0 σ = some (r, σ')) : gMet l yX4_one qX4_one (rmSC4 (d + 1)) 0 0 D vwCl [(cI, .int), (cJ, .long), (cQ, .array .long)] (cKS adK adV tK) [.ref (ad 43), .int p0] (CW cI cJ cQ ad ra σ) (CW cI cJ cQ ad ra σ') (some (.int r)) := by
  refine gMet.of (cc := cX4_one) (maxL := 2) (ret := (some .int)) (by decide) rfl (Nat.le_of_ble_eq_true rfl) ?_
  intro p e s m args below meth c S hr hlk hnm hK hKS hA hB ls hl
  have hl : lv_has ls 2 [(0, .ref (ad 43)), (1, .int p0)] := hl
  replace S : CallFix p m c cX4_one 2 s args (_ :: wsL_law) RX4 := S
  rw [FX4_one] at h
  refine lv_aload_n S.1 S.2.1 dX4_one_0 rfl (lv_at hl 0 rfl) ?_
  refine tg_43_4 S hK hB (S.2.2.2.2 _ (List.mem_cons_of_mem _ wf_X4_34)) rfl dX4_one_1 ?_
  by_cases c_1 : (σ.1 4304) = 5
  · replace h := (if_pos c_1).symm.trans h
    refine lv_tableIn (off := 128) (tgt := 132) S.1 S.2.1 dX4_one_4 (by rw [c_1]; decide) (by rw [c_1]; decide) (by rw [c_1]; rfl) (by decide) ?_
    refine lv_aload_n S.1 S.2.1 dX4_one_132 rfl (lv_at hl 0 rfl) ?_
    refine lv_iload_n S.1 S.2.1 dX4_one_133 rfl (lv_at hl 1 rfl) ?_
    obtain ⟨r_2, σ_2, e_2, h⟩ := b2s h
    refine cCallI S hK cKSc hKS hA (hrc.2.2.2.2.2.1 e_2) (cwX4_168 S.2.2.2.2 (rm := (rmSC4 d)) rfl rfl ⟨by dsimp only [rmSC4]; omega, by dsimp only [rmSC4]; omega⟩) hB 43 rfl rfl rfl hl.1 rfl (lv_room (Nat.le_of_ble_eq_true rfl)) dX4_one_134 ⟨Nat.zero_le _, Nat.zero_le _⟩ (fun H locs hB => ?_)
    cases h
    exact gRetI S.1 S.2.1 hr hlk hB dX4_one_137
  · replace h := (if_neg c_1).symm.trans h
    by_cases c_3 : (σ.1 4304) = 6
    · replace h := (if_pos c_3).symm.trans h
      refine lv_tableIn (off := 128) (tgt := 132) S.1 S.2.1 dX4_one_4 (by rw [c_3]; decide) (by rw [c_3]; decide) (by rw [c_3]; rfl) (by decide) ?_
      refine lv_aload_n S.1 S.2.1 dX4_one_132 rfl (lv_at hl 0 rfl) ?_
      refine lv_iload_n S.1 S.2.1 dX4_one_133 rfl (lv_at hl 1 rfl) ?_
      obtain ⟨r_4, σ_4, e_4, h⟩ := b2s h
      refine cCallI S hK cKSc hKS hA (hrc.2.2.2.2.2.1 e_4) (cwX4_168 S.2.2.2.2 (rm := (rmSC4 d)) rfl rfl ⟨by dsimp only [rmSC4]; omega, by dsimp only [rmSC4]; omega⟩) hB 43 rfl rfl rfl hl.1 rfl (lv_room (Nat.le_of_ble_eq_true rfl)) dX4_one_134 ⟨Nat.zero_le _, Nat.zero_le _⟩ (fun H locs hB => ?_)
      cases h
      exact gRetI S.1 S.2.1 hr hlk hB dX4_one_137
    · replace h := (if_neg c_3).symm.trans h
      by_cases c_5 : (σ.1 4304) = 7
      · replace h := (if_pos c_5).symm.trans h
        refine lv_tableIn (off := 128) (tgt := 132) S.1 S.2.1 dX4_one_4 (by rw [c_5]; decide) (by rw [c_5]; decide) (by rw [c_5]; rfl) (by decide) ?_
        refine lv_aload_n S.1 S.2.1 dX4_one_132 rfl (lv_at hl 0 rfl) ?_
        refine lv_iload_n S.1 S.2.1 dX4_one_133 rfl (lv_at hl 1 rfl) ?_
        obtain ⟨r_6, σ_6, e_6, h⟩ := b2s h
        refine cCallI S hK cKSc hKS hA (hrc.2.2.2.2.2.1 e_6) (cwX4_168 S.2.2.2.2 (rm := (rmSC4 d)) rfl rfl ⟨by dsimp only [rmSC4]; omega, by dsimp only [rmSC4]; omega⟩) hB 43 rfl rfl rfl hl.1 rfl (lv_room (Nat.le_of_ble_eq_true rfl)) dX4_one_134 ⟨Nat.zero_le _, Nat.zero_le _⟩ (fun H locs hB => ?_)
        cases h
        exact gRetI S.1 S.2.1 hr hlk hB dX4_one_137
      · replace h := (if_neg c_5).symm.trans h
        by_cases c_7 : (σ.1 4304) = 8
        · replace h := (if_pos c_7).symm.trans h
          refine lv_tableIn (off := 128) (tgt := 132) S.1 S.2.1 dX4_one_4 (by rw [c_7]; decide) (by rw [c_7]; decide) (by rw [c_7]; rfl) (by decide) ?_
          refine lv_aload_n S.1 S.2.1 dX4_one_132 rfl (lv_at hl 0 rfl) ?_
          refine lv_iload_n S.1 S.2.1 dX4_one_133 rfl (lv_at hl 1 rfl) ?_
          obtain ⟨r_8, σ_8, e_8, h⟩ := b2s h
          refine cCallI S hK cKSc hKS hA (hrc.2.2.2.2.2.1 e_8) (cwX4_168 S.2.2.2.2 (rm := (rmSC4 d)) rfl rfl ⟨by dsimp only [rmSC4]; omega, by dsimp only [rmSC4]; omega⟩) hB 43 rfl rfl rfl hl.1 rfl (lv_room (Nat.le_of_ble_eq_true rfl)) dX4_one_134 ⟨Nat.zero_le _, Nat.zero_le _⟩ (fun H locs hB => ?_)
          cases h
          exact gRetI S.1 S.2.1 hr hlk hB dX4_one_137
        · replace h := (if_neg c_7).symm.trans h
          by_cases c_9 : (σ.1 4304) = 9
          · replace h := (if_pos c_9).symm.trans h
            refine lv_tableIn (off := 128) (tgt := 132) S.1 S.2.1 dX4_one_4 (by rw [c_9]; decide) (by rw [c_9]; decide) (by rw [c_9]; rfl) (by decide) ?_
            refine lv_aload_n S.1 S.2.1 dX4_one_132 rfl (lv_at hl 0 rfl) ?_
            refine lv_iload_n S.1 S.2.1 dX4_one_133 rfl (lv_at hl 1 rfl) ?_
            obtain ⟨r_10, σ_10, e_10, h⟩ := b2s h
            refine cCallI S hK cKSc hKS hA (hrc.2.2.2.2.2.1 e_10) (cwX4_168 S.2.2.2.2 (rm := (rmSC4 d)) rfl rfl ⟨by dsimp only [rmSC4]; omega, by dsimp only [rmSC4]; omega⟩) hB 43 rfl rfl rfl hl.1 rfl (lv_room (Nat.le_of_ble_eq_true rfl)) dX4_one_134 ⟨Nat.zero_le _, Nat.zero_le _⟩ (fun H locs hB => ?_)
            cases h
            exact gRetI S.1 S.2.1 hr hlk hB dX4_one_137
          · replace h := (if_neg c_9).symm.trans h
            by_cases c_11 : (σ.1 4304) = 10
            · replace h := (if_pos c_11).symm.trans h
              refine lv_tableIn (off := 128) (tgt := 132) S.1 S.2.1 dX4_one_4 (by rw [c_11]; decide) (by rw [c_11]; decide) (by rw [c_11]; rfl) (by decide) ?_
              refine lv_aload_n S.1 S.2.1 dX4_one_132 rfl (lv_at hl 0 rfl) ?_
              refine lv_iload_n S.1 S.2.1 dX4_one_133 rfl (lv_at hl 1 rfl) ?_
              obtain ⟨r_12, σ_12, e_12, h⟩ := b2s h
              refine cCallI S hK cKSc hKS hA (hrc.2.2.2.2.2.1 e_12) (cwX4_168 S.2.2.2.2 (rm := (rmSC4 d)) rfl rfl ⟨by dsimp only [rmSC4]; omega, by dsimp only [rmSC4]; omega⟩) hB 43 rfl rfl rfl hl.1 rfl (lv_room (Nat.le_of_ble_eq_true rfl)) dX4_one_134 ⟨Nat.zero_le _, Nat.zero_le _⟩ (fun H locs hB => ?_)
              cases h
              exact gRetI S.1 S.2.1 hr hlk hB dX4_one_137
            · replace h := (if_neg c_11).symm.trans h
              by_cases c_13 : (σ.1 4304) = 15
              · replace h := (if_pos c_13).symm.trans h
                refine lv_tableIn (off := 146) (tgt := 150) S.1 S.2.1 dX4_one_4 (by rw [c_13]; decide) (by rw [c_13]; decide) (by rw [c_13]; rfl) (by decide) ?_
                refine lv_aload_n S.1 S.2.1 dX4_one_150 rfl (lv_at hl 0 rfl) ?_
                obtain ⟨r_14, σ_14, e_14, h⟩ := b2s h
                refine cCallI S hK cKSc hKS hA (kX4_named e_14) (cwX4_177 S.2.2.2.2 (rm := rmX4_named) rfl rfl ⟨by dsimp only [rmSC4, rmX4_named]; omega, by dsimp only [rmSC4, rmX4_named]; omega⟩) hB 43 rfl rfl rfl hl.1 rfl (lv_room (Nat.le_of_ble_eq_true rfl)) dX4_one_151 ⟨Nat.zero_le _, Nat.zero_le _⟩ (fun H locs hB => ?_)
                cases h
                exact gRetI S.1 S.2.1 hr hlk hB dX4_one_154
              · replace h := (if_neg c_13).symm.trans h
                by_cases c_15 : (σ.1 4304) = 16
                · replace h := (if_pos c_15).symm.trans h
                  refine lv_tableIn (off := 140) (tgt := 144) S.1 S.2.1 dX4_one_4 (by rw [c_15]; decide) (by rw [c_15]; decide) (by rw [c_15]; rfl) (by decide) ?_
                  refine lv_aload_n S.1 S.2.1 dX4_one_144 rfl (lv_at hl 0 rfl) ?_
                  refine lv_iconst (v := (0 : Int32)) S.1 S.2.1 dX4_one_145 (by decide) ?_
                  obtain ⟨r_16, σ_16, e_16, h⟩ := b2s h
                  refine cCallI S hK cKSc hKS hA (kX4_single e_16) (cwX4_174 S.2.2.2.2 (rm := rmX4_single) rfl rfl ⟨by dsimp only [rmSC4, rmX4_single]; omega, by dsimp only [rmSC4, rmX4_single]; omega⟩) hB 43 rfl rfl rfl hl.1 rfl (lv_room (Nat.le_of_ble_eq_true rfl)) dX4_one_146 ⟨Nat.zero_le _, Nat.zero_le _⟩ (fun H locs hB => ?_)
                  cases h
                  exact gRetI S.1 S.2.1 hr hlk hB dX4_one_149
                · replace h := (if_neg c_15).symm.trans h
                  by_cases c_17 : (σ.1 4304) = 17
                  · replace h := (if_pos c_17).symm.trans h
                    refine lv_tableIn (off := 140) (tgt := 144) S.1 S.2.1 dX4_one_4 (by rw [c_17]; decide) (by rw [c_17]; decide) (by rw [c_17]; rfl) (by decide) ?_
                    refine lv_aload_n S.1 S.2.1 dX4_one_144 rfl (lv_at hl 0 rfl) ?_
                    refine lv_iconst (v := (0 : Int32)) S.1 S.2.1 dX4_one_145 (by decide) ?_
                    obtain ⟨r_18, σ_18, e_18, h⟩ := b2s h
                    refine cCallI S hK cKSc hKS hA (kX4_single e_18) (cwX4_174 S.2.2.2.2 (rm := rmX4_single) rfl rfl ⟨by dsimp only [rmSC4, rmX4_single]; omega, by dsimp only [rmSC4, rmX4_single]; omega⟩) hB 43 rfl rfl rfl hl.1 rfl (lv_room (Nat.le_of_ble_eq_true rfl)) dX4_one_146 ⟨Nat.zero_le _, Nat.zero_le _⟩ (fun H locs hB => ?_)
                    cases h
                    exact gRetI S.1 S.2.1 hr hlk hB dX4_one_149
                  · replace h := (if_neg c_17).symm.trans h
                    by_cases c_19 : (σ.1 4304) = 32
                    · replace h := (if_pos c_19).symm.trans h
                      refine lv_tableIn (off := 134) (tgt := 138) S.1 S.2.1 dX4_one_4 (by rw [c_19]; decide) (by rw [c_19]; decide) (by rw [c_19]; rfl) (by decide) ?_
                      refine lv_aload_n S.1 S.2.1 dX4_one_138 rfl (lv_at hl 0 rfl) ?_
                      refine lv_iload_n S.1 S.2.1 dX4_one_139 rfl (lv_at hl 1 rfl) ?_
                      obtain ⟨r_20, σ_20, e_20, h⟩ := b2s h
                      refine cCallI S hK cKSc hKS hA (hrc.2.2.2.2.2.2.1 e_20) (cwX4_171 S.2.2.2.2 (rm := (rmSC4 d)) rfl rfl ⟨by dsimp only [rmSC4]; omega, by dsimp only [rmSC4]; omega⟩) hB 43 rfl rfl rfl hl.1 rfl (lv_room (Nat.le_of_ble_eq_true rfl)) dX4_one_140 ⟨Nat.zero_le _, Nat.zero_le _⟩ (fun H locs hB => ?_)
                      cases h
                      exact gRetI S.1 S.2.1 hr hlk hB dX4_one_143
                    · replace h := (if_neg c_19).symm.trans h
                      refine swT (tgt := 155) (cs := [5, 6, 7, 8, 9, 10, 15, 16, 17, 32]) S.1 S.2.1 dX4_one_4 (List.forall_mem_cons.mpr ⟨lv_neT c_1 (by decide), List.forall_mem_cons.mpr ⟨lv_neT c_3 (by decide), List.forall_mem_cons.mpr ⟨lv_neT c_5 (by decide), List.forall_mem_cons.mpr ⟨lv_neT c_7 (by decide), List.forall_mem_cons.mpr ⟨lv_neT c_9 (by decide), List.forall_mem_cons.mpr ⟨lv_neT c_11 (by decide), List.forall_mem_cons.mpr ⟨lv_neT c_13 (by decide), List.forall_mem_cons.mpr ⟨lv_neT c_15 (by decide), List.forall_mem_cons.mpr ⟨lv_neT c_17 (by decide), List.forall_mem_cons.mpr ⟨lv_neT c_19 (by decide), List.forall_mem_nil _⟩⟩⟩⟩⟩⟩⟩⟩⟩⟩) (by decide) (by decide) (by decide) ?_
                      refine lv_aload_n S.1 S.2.1 dX4_one_155 rfl (lv_at hl 0 rfl) ?_
                      refine lv_iload_n S.1 S.2.1 dX4_one_156 rfl (lv_at hl 1 rfl) ?_
                      obtain ⟨r_21, σ_21, e_21, h⟩ := b2s h
                      refine cCallI S hK cKSc hKS hA (hrc.2.2.2.2.2.2.2.1 e_21) (cwX4_180 S.2.2.2.2 (rm := (rmSC4 d)) rfl rfl ⟨by dsimp only [rmSC4]; omega, by dsimp only [rmSC4]; omega⟩) hB 43 rfl rfl rfl hl.1 rfl (lv_room (Nat.le_of_ble_eq_true rfl)) dX4_one_157 ⟨Nat.zero_le _, Nat.zero_le _⟩ (fun H locs hB => ?_)
                      cases h
                      exact gRetI S.1 S.2.1 hr hlk hB dX4_one_160
def FX4_prefixed_42 (rc : RCc)  (x1 : Int32) (x2 : Int32) (x3 : Int32) (σ1 : CS) : Option (Int32 × CS) :=
    b2 (rc 4 (x1 + (1 : Int32)) σ1) fun r_4 σ_4 =>
    b2 (FX3_add x2 x3 r_4 (-1 : Int32) σ_4) fun r_5 σ_5 =>
    b2 (FX3_bound r_5 (σ1.1 4310) (σ1.1 4311) σ_5) fun (_ : Unit) σ_6 =>
    some (r_5, σ_6)
def FX4_prefixed_38 (rc : RCc)  (x1 : Int32) (x2 : Int32) (x3 : Int32) (σ1 : CS) : Option (Int32 × CS) :=
    b2 (FX4_readBounds σ1) fun (_ : Unit) σ_3 =>
    FX4_prefixed_42 rc x1 x2 x3 σ_3
def FX4_prefixed (rc : RCc) (p0 : Int32) (σ : CS) : Option (Int32 × CS) :=
  b2 (FX4_deepen p0 σ) fun (_ : Unit) σ_1 =>
  if (σ.1 4304) = (9 : Int32) then
    FX4_prefixed_38 rc p0 (σ.1 4304) (σ.1 4305) (tI (tI σ_1 4310 (0 : Int32)) 4311 (1000000 : Int32))
  else
    if (σ.1 4304) = (10 : Int32) then
      FX4_prefixed_38 rc p0 (σ.1 4304) (σ.1 4305) (tI (tI σ_1 4310 (0 : Int32)) 4311 (1000000 : Int32))
    else
      FX4_prefixed_42 rc p0 (σ.1 4304) (σ.1 4305) (tI (tI σ_1 4310 (0 : Int32)) 4311 (1000000 : Int32))
set_option maxRecDepth 100000 in
set_option maxHeartbeats 4000000 in
theorem kX4_prefixed {l : Launch} {D : va_G} {cI cJ cQ : ClassId} {ad : Nat → Nat} {ra : Nat → Nat → Nat} {adK adV tK : Nat → Nat} {d : Nat} {rc : RCc} (hrc : SC4 l D cI cJ cQ ad ra adK adV tK d rc) {p0 : Int32} {σ σ' : CS} {r : Int32} (h : FX4_prefixed rc p0 σ = some (r, σ')) : gMet l yX4_prefixed qX4_prefixed (rmSC4 (d + 1)) 0 0 D vwCl [(cI, .int), (cJ, .long), (cQ, .array .long)] (cKS adK adV tK) [.ref (ad 43), .int p0] (CW cI cJ cQ ad ra σ) (CW cI cJ cQ ad ra σ') (some (.int r)) := by
  refine gMet.of (cc := cX4_prefixed) (maxL := 8) (ret := (some .int)) (by decide) rfl (Nat.le_of_ble_eq_true rfl) ?_
  intro p e s m args below meth c S hr hlk hnm hK hKS hA hB ls hl
  have hl : lv_has ls 8 [(0, .ref (ad 43)), (1, .int p0)] := hl
  replace S : CallFix p m c cX4_prefixed 8 s args (_ :: wsL_law) RX4 := S
  rw [FX4_prefixed] at h
  have P42 : ∀ (x1 : Int32) (x2 : Int32) (x3 : Int32) (σ1 : CS) (H : Heap) (locs : List Loc) (ls : Array Slot), FX4_prefixed_42 rc x1 x2 x3 σ1 = some (r, σ') → gB D vwCl (va_A (CW cI cJ cQ ad ra σ) s.heap.size) s.heap (CW cI cJ cQ ad ra σ1) [] H locs → lv_has ls 8 [(0, .ref (ad 43)), (1, .int x1), (2, .int x2), (3, .int x3)] → W p l e (rmSC4 (d + 1)) s m args below meth c H locs 0 0 (MQ below (gQ D vwCl (CW cI cJ cQ ad ra σ) (CW cI cJ cQ ad ra σ') (some (.int r)) s.heap.size) args s 0 0 (va_A (CW cI cJ cQ ad ra σ) s.heap.size)) (F0 m 42 ls []) := by
    intro  x1 x2 x3 σ1 H locs ls h hB hl
    rw [FX4_prefixed_42] at h
    refine lv_aload_n S.1 S.2.1 dX4_prefixed_42 rfl (lv_at hl 0 rfl) ?_
    refine tg_43_10 S hK hB (S.2.2.2.2 _ (List.mem_cons_of_mem _ wf_X4_139)) rfl dX4_prefixed_43 ?_
    refine lv_istore (lv' := [(4, .int (σ1.1 4310)), (0, .ref (ad 43)), (1, .int x1), (2, .int x2), (3, .int x3)]) S.1 S.2.1 dX4_prefixed_46 hl (by decide) rfl (fun ls hl => ?_)
    refine lv_aload_n S.1 S.2.1 dX4_prefixed_48 rfl (lv_at hl 1 rfl) ?_
    refine tg_43_11 S hK hB (S.2.2.2.2 _ (List.mem_cons_of_mem _ wf_X4_143)) rfl dX4_prefixed_49 ?_
    refine lv_istore (lv' := [(5, .int (σ1.1 4311)), (4, .int (σ1.1 4310)), (0, .ref (ad 43)), (1, .int x1), (2, .int x2), (3, .int x3)]) S.1 S.2.1 dX4_prefixed_52 hl (by decide) rfl (fun ls hl => ?_)
    refine lv_aload_n S.1 S.2.1 dX4_prefixed_54 rfl (lv_at hl 2 rfl) ?_
    refine lv_iload_n S.1 S.2.1 dX4_prefixed_55 rfl (lv_at hl 3 rfl) ?_
    refine lv_iconst (v := (1 : Int32)) S.1 S.2.1 dX4_prefixed_56 (by decide) ?_
    refine lv_iadd S.1 S.2.1 dX4_prefixed_57 ?_
    obtain ⟨r_4, σ_4, e_4, h⟩ := b2s h
    refine cCallI S hK cKSc hKS hA (hrc.2.2.2.2.1 e_4) (cwX4_158 S.2.2.2.2 (rm := (rmSC4 d)) rfl rfl ⟨by dsimp only [rmSC4]; omega, by dsimp only [rmSC4]; omega⟩) hB 43 rfl rfl rfl hl.1 rfl (lv_room (Nat.le_of_ble_eq_true rfl)) dX4_prefixed_58 ⟨Nat.zero_le _, Nat.zero_le _⟩ (fun H locs hB => ?_)
    refine lv_istore (lv' := [(6, .int r_4), (5, .int (σ1.1 4311)), (4, .int (σ1.1 4310)), (0, .ref (ad 43)), (1, .int x1), (2, .int x2), (3, .int x3)]) S.1 S.2.1 dX4_prefixed_61 hl (by decide) rfl (fun ls hl => ?_)
    refine lv_aload_n S.1 S.2.1 dX4_prefixed_63 rfl (lv_at hl 3 rfl) ?_
    refine tg_43_1 S hK hB (S.2.2.2.2 _ (List.mem_cons_of_mem _ wf_X4_15)) dX4_prefixed_64 ?_
    refine lv_iload_n S.1 S.2.1 dX4_prefixed_67 rfl (lv_at hl 5 rfl) ?_
    refine lv_iload_n S.1 S.2.1 dX4_prefixed_68 rfl (lv_at hl 6 rfl) ?_
    refine lv_iload S.1 S.2.1 dX4_prefixed_69 (lv_at hl 0 rfl) ?_
    refine lv_iconst (v := (-1 : Int32)) S.1 S.2.1 dX4_prefixed_71 (by decide) ?_
    obtain ⟨r_5, σ_5, e_5, h⟩ := b2s h
    refine cCallI S hK cKSc hKS hA (kX3_add e_5) (cwX4_149 S.2.2.2.2 (rm := rmX3_add) rfl rfl ⟨by dsimp only [rmSC4, rmX3_add]; omega, by dsimp only [rmSC4, rmX3_add]; omega⟩) hB 13 rfl rfl rfl hl.1 rfl (lv_room (Nat.le_of_ble_eq_true rfl)) dX4_prefixed_72 ⟨Nat.zero_le _, Nat.zero_le _⟩ (fun H locs hB => ?_)
    refine lv_istore (lv' := [(7, .int r_5), (6, .int r_4), (5, .int (σ1.1 4311)), (4, .int (σ1.1 4310)), (0, .ref (ad 43)), (1, .int x1), (2, .int x2), (3, .int x3)]) S.1 S.2.1 dX4_prefixed_75 hl (by decide) rfl (fun ls hl => ?_)
    refine lv_aload_n S.1 S.2.1 dX4_prefixed_77 rfl (lv_at hl 4 rfl) ?_
    refine tg_43_1 S hK hB (S.2.2.2.2 _ (List.mem_cons_of_mem _ wf_X4_15)) dX4_prefixed_78 ?_
    refine lv_iload S.1 S.2.1 dX4_prefixed_81 (lv_at hl 0 rfl) ?_
    refine lv_iload S.1 S.2.1 dX4_prefixed_83 (lv_at hl 3 rfl) ?_
    refine lv_iload S.1 S.2.1 dX4_prefixed_85 (lv_at hl 2 rfl) ?_
    obtain ⟨_, σ_6, e_6, h⟩ := b2s h
    refine cCallV S hK cKSc hKS hA (kX3_bound e_6) (cwX4_164 S.2.2.2.2 (rm := rmX3_bound) rfl rfl ⟨by dsimp only [rmSC4, rmX3_bound]; omega, by dsimp only [rmSC4, rmX3_bound]; omega⟩) hB 13 rfl rfl rfl hl.1 rfl (lv_room (Nat.le_of_ble_eq_true rfl)) dX4_prefixed_87 ⟨Nat.zero_le _, Nat.zero_le _⟩ (fun H locs hB => ?_)
    refine lv_iload S.1 S.2.1 dX4_prefixed_90 (lv_at hl 0 rfl) ?_
    cases h
    exact gRetI S.1 S.2.1 hr hlk hB dX4_prefixed_92
  have P38 : ∀ (x1 : Int32) (x2 : Int32) (x3 : Int32) (σ1 : CS) (H : Heap) (locs : List Loc) (ls : Array Slot), FX4_prefixed_38 rc x1 x2 x3 σ1 = some (r, σ') → gB D vwCl (va_A (CW cI cJ cQ ad ra σ) s.heap.size) s.heap (CW cI cJ cQ ad ra σ1) [] H locs → lv_has ls 8 [(0, .ref (ad 43)), (1, .int x1), (2, .int x2), (3, .int x3)] → W p l e (rmSC4 (d + 1)) s m args below meth c H locs 0 0 (MQ below (gQ D vwCl (CW cI cJ cQ ad ra σ) (CW cI cJ cQ ad ra σ') (some (.int r)) s.heap.size) args s 0 0 (va_A (CW cI cJ cQ ad ra σ) s.heap.size)) (F0 m 38 ls []) := by
    intro  x1 x2 x3 σ1 H locs ls h hB hl
    rw [FX4_prefixed_38] at h
    refine lv_aload_n S.1 S.2.1 dX4_prefixed_38 rfl (lv_at hl 0 rfl) ?_
    obtain ⟨_, σ_3, e_3, h⟩ := b2s h
    refine cCallV S hK cKSc hKS hA (kX4_readBounds e_3) (cwX4_161 S.2.2.2.2 (rm := rmX4_readBounds) rfl rfl ⟨by dsimp only [rmSC4, rmX4_readBounds]; omega, by dsimp only [rmSC4, rmX4_readBounds]; omega⟩) hB 43 rfl rfl rfl hl.1 rfl (lv_room (Nat.le_of_ble_eq_true rfl)) dX4_prefixed_39 ⟨Nat.zero_le _, Nat.zero_le _⟩ (fun H locs hB => ?_)
    exact P42  _ _ _ _ _ _ _ h hB hl
  refine lv_aload_n S.1 S.2.1 dX4_prefixed_0 rfl (lv_at hl 0 rfl) ?_
  refine tg_43_4 S hK hB (S.2.2.2.2 _ (List.mem_cons_of_mem _ wf_X4_34)) rfl dX4_prefixed_1 ?_
  refine lv_istore_n (lv' := [(2, .int (σ.1 4304)), (0, .ref (ad 43)), (1, .int p0)]) S.1 S.2.1 dX4_prefixed_4 rfl hl (by decide) rfl (fun ls hl => ?_)
  refine lv_aload_n S.1 S.2.1 dX4_prefixed_5 rfl (lv_at hl 1 rfl) ?_
  refine tg_43_5 S hK hB (S.2.2.2.2 _ (List.mem_cons_of_mem _ wf_X4_53)) rfl dX4_prefixed_6 ?_
  refine lv_istore_n (lv' := [(3, .int (σ.1 4305)), (2, .int (σ.1 4304)), (0, .ref (ad 43)), (1, .int p0)]) S.1 S.2.1 dX4_prefixed_9 rfl hl (by decide) rfl (fun ls hl => ?_)
  refine lv_aload_n S.1 S.2.1 dX4_prefixed_10 rfl (lv_at hl 2 rfl) ?_
  refine lv_iload_n S.1 S.2.1 dX4_prefixed_11 rfl (lv_at hl 3 rfl) ?_
  obtain ⟨_, σ_1, e_1, h⟩ := b2s h
  refine cCallV S hK cKSc hKS hA (kX4_deepen e_1) (cwX4_183 S.2.2.2.2 (rm := rmX4_deepen) rfl rfl ⟨by dsimp only [rmSC4, rmX4_deepen]; omega, by dsimp only [rmSC4, rmX4_deepen]; omega⟩) hB 43 rfl rfl rfl hl.1 rfl (lv_room (Nat.le_of_ble_eq_true rfl)) dX4_prefixed_12 ⟨Nat.zero_le _, Nat.zero_le _⟩ (fun H locs hB => ?_)
  refine lv_aload_n S.1 S.2.1 dX4_prefixed_15 rfl (lv_at hl 2 rfl) ?_
  refine lv_iconst (v := (0 : Int32)) S.1 S.2.1 dX4_prefixed_16 (by decide) ?_
  refine tp_43_10 S hK hB (S.2.2.2.2 _ (List.mem_cons_of_mem _ wf_X4_139)) dX4_prefixed_17 (fun H locs hB => ?_)
  refine lv_aload_n S.1 S.2.1 dX4_prefixed_20 rfl (lv_at hl 2 rfl) ?_
  refine lv_ldc (v := 1000000) S.1 S.2.1 S.2.2.2.1 (S.2.2.2.2 _ (List.mem_cons_of_mem _ wc_X4_142)) dX4_prefixed_21 ?_
  refine tp_43_11 S hK hB (S.2.2.2.2 _ (List.mem_cons_of_mem _ wf_X4_143)) dX4_prefixed_23 (fun H locs hB => ?_)
  refine lv_iload_n S.1 S.2.1 dX4_prefixed_26 rfl (lv_at hl 1 rfl) ?_
  refine lv_bipush (v := (9 : Int32)) S.1 S.2.1 dX4_prefixed_27 (by decide) ?_
  refine lv_icmp_eq (tgt := 38) S.1 S.2.1 dX4_prefixed_29 (by decide) (fun c_2 => ?_) (fun c_2 => ?_)
  · replace h := (if_pos c_2).symm.trans h
    exact P38  _ _ _ _ _ _ _ h hB (lv_sub hl [2, 3, 1, 0] rfl)
  · replace h := (if_neg c_2).symm.trans h
    refine lv_iload_n S.1 S.2.1 dX4_prefixed_32 rfl (lv_at hl 1 rfl) ?_
    refine lv_bipush (v := (10 : Int32)) S.1 S.2.1 dX4_prefixed_33 (by decide) ?_
    refine lv_icmp_ne (tgt := 42) S.1 S.2.1 dX4_prefixed_35 (by decide) (fun c_7 => ?_) (fun c_7 => ?_)
    · replace h := (if_neg c_7).symm.trans h
      exact P42  _ _ _ _ _ _ _ h hB (lv_sub hl [2, 3, 1, 0] rfl)
    · replace h := (if_pos c_7).symm.trans h
      exact P38  _ _ _ _ _ _ _ h hB (lv_sub hl [2, 3, 1, 0] rfl)
def FX4_braced (rc : RCc) (p0 : Int32) (σ : CS) : Option (Int32 × CS) :=
  if (σ.1 4304) = (32 : Int32) then
    b2 (FX4_deepen p0 σ) fun (_ : Unit) σ_2 =>
    b2 (rc 0 (p0 + (1 : Int32)) σ_2) fun r_3 σ_3 =>
    b2 (FX4_expect (33 : Int32) σ_3) fun (_ : Unit) σ_4 =>
    some (r_3, σ_4)
  else
    b2 (FX4_fail σ) fun (_ : Unit) σ_5 =>
    some ((-1 : Int32), σ_5)
set_option maxRecDepth 100000 in
set_option maxHeartbeats 4000000 in
theorem kX4_braced {l : Launch} {D : va_G} {cI cJ cQ : ClassId} {ad : Nat → Nat} {ra : Nat → Nat → Nat} {adK adV tK : Nat → Nat} {d : Nat} {rc : RCc} (hrc : SC4 l D cI cJ cQ ad ra adK adV tK d rc) {p0 : Int32} {σ σ' : CS} {r : Int32} (h : FX4_braced rc p0 σ = some (r, σ')) : gMet l yX4_braced qX4_braced (rmSC4 (d + 1)) 0 0 D vwCl [(cI, .int), (cJ, .long), (cQ, .array .long)] (cKS adK adV tK) [.ref (ad 43), .int p0] (CW cI cJ cQ ad ra σ) (CW cI cJ cQ ad ra σ') (some (.int r)) := by
  refine gMet.of (cc := cX4_braced) (maxL := 3) (ret := (some .int)) (by decide) rfl (Nat.le_of_ble_eq_true rfl) ?_
  intro p e s m args below meth c S hr hlk hnm hK hKS hA hB ls hl
  have hl : lv_has ls 3 [(0, .ref (ad 43)), (1, .int p0)] := hl
  replace S : CallFix p m c cX4_braced 3 s args (_ :: wsL_law) RX4 := S
  rw [FX4_braced] at h
  refine lv_aload_n S.1 S.2.1 dX4_braced_0 rfl (lv_at hl 0 rfl) ?_
  refine tg_43_4 S hK hB (S.2.2.2.2 _ (List.mem_cons_of_mem _ wf_X4_34)) rfl dX4_braced_1 ?_
  refine lv_bipush (v := (32 : Int32)) S.1 S.2.1 dX4_braced_4 (by decide) ?_
  refine lv_icmp_eq (tgt := 15) S.1 S.2.1 dX4_braced_6 (by decide) (fun c_1 => ?_) (fun c_1 => ?_)
  · replace h := (if_pos c_1).symm.trans h
    refine lv_aload_n S.1 S.2.1 dX4_braced_15 rfl (lv_at hl 0 rfl) ?_
    refine lv_iload_n S.1 S.2.1 dX4_braced_16 rfl (lv_at hl 1 rfl) ?_
    obtain ⟨_, σ_2, e_2, h⟩ := b2s h
    refine cCallV S hK cKSc hKS hA (kX4_deepen e_2) (cwX4_183 S.2.2.2.2 (rm := rmX4_deepen) rfl rfl ⟨by dsimp only [rmSC4, rmX4_deepen]; omega, by dsimp only [rmSC4, rmX4_deepen]; omega⟩) hB 43 rfl rfl rfl hl.1 rfl (lv_room (Nat.le_of_ble_eq_true rfl)) dX4_braced_17 ⟨Nat.zero_le _, Nat.zero_le _⟩ (fun H locs hB => ?_)
    refine lv_aload_n S.1 S.2.1 dX4_braced_20 rfl (lv_at hl 0 rfl) ?_
    refine lv_iload_n S.1 S.2.1 dX4_braced_21 rfl (lv_at hl 1 rfl) ?_
    refine lv_iconst (v := (1 : Int32)) S.1 S.2.1 dX4_braced_22 (by decide) ?_
    refine lv_iadd S.1 S.2.1 dX4_braced_23 ?_
    obtain ⟨r_3, σ_3, e_3, h⟩ := b2s h
    refine cCallI S hK cKSc hKS hA (hrc.1 e_3) (cwX4_60 S.2.2.2.2 (rm := (rmSC4 d)) rfl rfl ⟨by dsimp only [rmSC4]; omega, by dsimp only [rmSC4]; omega⟩) hB 43 rfl rfl rfl hl.1 rfl (lv_room (Nat.le_of_ble_eq_true rfl)) dX4_braced_24 ⟨Nat.zero_le _, Nat.zero_le _⟩ (fun H locs hB => ?_)
    refine lv_istore_n (lv' := [(2, .int r_3), (0, .ref (ad 43)), (1, .int p0)]) S.1 S.2.1 dX4_braced_27 rfl hl (by decide) rfl (fun ls hl => ?_)
    refine lv_aload_n S.1 S.2.1 dX4_braced_28 rfl (lv_at hl 1 rfl) ?_
    refine lv_bipush (v := (33 : Int32)) S.1 S.2.1 dX4_braced_29 (by decide) ?_
    obtain ⟨_, σ_4, e_4, h⟩ := b2s h
    refine cCallV S hK cKSc hKS hA (kX4_expect e_4) (cwX4_106 S.2.2.2.2 (rm := rmX4_expect) rfl rfl ⟨by dsimp only [rmSC4, rmX4_expect]; omega, by dsimp only [rmSC4, rmX4_expect]; omega⟩) hB 43 rfl rfl rfl hl.1 rfl (lv_room (Nat.le_of_ble_eq_true rfl)) dX4_braced_31 ⟨Nat.zero_le _, Nat.zero_le _⟩ (fun H locs hB => ?_)
    refine lv_iload_n S.1 S.2.1 dX4_braced_34 rfl (lv_at hl 0 rfl) ?_
    cases h
    exact gRetI S.1 S.2.1 hr hlk hB dX4_braced_35
  · replace h := (if_neg c_1).symm.trans h
    refine lv_aload_n S.1 S.2.1 dX4_braced_9 rfl (lv_at hl 0 rfl) ?_
    obtain ⟨_, σ_5, e_5, h⟩ := b2s h
    refine cCallV S hK cKSc hKS hA (kX4_fail e_5) (cwX4_63 S.2.2.2.2 (rm := rmX4_fail) rfl rfl ⟨by dsimp only [rmSC4, rmX4_fail]; omega, by dsimp only [rmSC4, rmX4_fail]; omega⟩) hB 43 rfl rfl rfl hl.1 rfl (lv_room (Nat.le_of_ble_eq_true rfl)) dX4_braced_10 ⟨Nat.zero_le _, Nat.zero_le _⟩ (fun H locs hB => ?_)
    refine lv_iconst (v := (-1 : Int32)) S.1 S.2.1 dX4_braced_13 (by decide) ?_
    cases h
    exact gRetI S.1 S.2.1 hr hlk hB dX4_braced_14
def FX4_compare_31 (rc : RCc)   (σ1 : CS) : Option (Int32 × CS) :=
    b2 (FX4_fail σ1) fun (_ : Unit) σ_3 =>
    some ((-1 : Int32), σ_3)
def FX4_compare (rc : RCc) (p0 : Int32) (σ : CS) : Option (Int32 × CS) :=
  b2 (rc 8 p0 σ) fun r_1 σ_1 =>
  if (σ_1.1 4304) < (44 : Int32) then
    FX4_compare_31 rc σ_1
  else
    if (σ_1.1 4304) ≤ (49 : Int32) then
      b2 (FX4_advance σ_1) fun (_ : Unit) σ_5 =>
      b2 (rc 8 p0 σ_5) fun r_6 σ_6 =>
      b2 (FX3_add (σ_1.1 4304) (σ.1 4305) r_1 r_6 σ_6) fun r_7 σ_7 =>
      some (r_7, σ_7)
    else
      FX4_compare_31 rc σ_1
set_option maxRecDepth 100000 in
set_option maxHeartbeats 4000000 in
theorem kX4_compare {l : Launch} {D : va_G} {cI cJ cQ : ClassId} {ad : Nat → Nat} {ra : Nat → Nat → Nat} {adK adV tK : Nat → Nat} {d : Nat} {rc : RCc} (hrc : SC4 l D cI cJ cQ ad ra adK adV tK d rc) {p0 : Int32} {σ σ' : CS} {r : Int32} (h : FX4_compare rc p0 σ = some (r, σ')) : gMet l yX4_compare qX4_compare (rmSC4 (d + 1)) 0 0 D vwCl [(cI, .int), (cJ, .long), (cQ, .array .long)] (cKS adK adV tK) [.ref (ad 43), .int p0] (CW cI cJ cQ ad ra σ) (CW cI cJ cQ ad ra σ') (some (.int r)) := by
  refine gMet.of (cc := cX4_compare) (maxL := 6) (ret := (some .int)) (by decide) rfl (Nat.le_of_ble_eq_true rfl) ?_
  intro p e s m args below meth c S hr hlk hnm hK hKS hA hB ls hl
  have hl : lv_has ls 6 [(0, .ref (ad 43)), (1, .int p0)] := hl
  replace S : CallFix p m c cX4_compare 6 s args (_ :: wsL_law) RX4 := S
  rw [FX4_compare] at h
  have P31 : ∀  (σ1 : CS) (H : Heap) (locs : List Loc) (ls : Array Slot), FX4_compare_31 rc  σ1 = some (r, σ') → gB D vwCl (va_A (CW cI cJ cQ ad ra σ) s.heap.size) s.heap (CW cI cJ cQ ad ra σ1) [] H locs → lv_has ls 6 [(0, .ref (ad 43))] → W p l e (rmSC4 (d + 1)) s m args below meth c H locs 0 0 (MQ below (gQ D vwCl (CW cI cJ cQ ad ra σ) (CW cI cJ cQ ad ra σ') (some (.int r)) s.heap.size) args s 0 0 (va_A (CW cI cJ cQ ad ra σ) s.heap.size)) (F0 m 31 ls []) := by
    intro   σ1 H locs ls h hB hl
    rw [FX4_compare_31] at h
    refine lv_aload_n S.1 S.2.1 dX4_compare_31 rfl (lv_at hl 0 rfl) ?_
    obtain ⟨_, σ_3, e_3, h⟩ := b2s h
    refine cCallV S hK cKSc hKS hA (kX4_fail e_3) (cwX4_63 S.2.2.2.2 (rm := rmX4_fail) rfl rfl ⟨by dsimp only [rmSC4, rmX4_fail]; omega, by dsimp only [rmSC4, rmX4_fail]; omega⟩) hB 43 rfl rfl rfl hl.1 rfl (lv_room (Nat.le_of_ble_eq_true rfl)) dX4_compare_32 ⟨Nat.zero_le _, Nat.zero_le _⟩ (fun H locs hB => ?_)
    refine lv_iconst (v := (-1 : Int32)) S.1 S.2.1 dX4_compare_35 (by decide) ?_
    cases h
    exact gRetI S.1 S.2.1 hr hlk hB dX4_compare_36
  refine lv_aload_n S.1 S.2.1 dX4_compare_0 rfl (lv_at hl 0 rfl) ?_
  refine tg_43_5 S hK hB (S.2.2.2.2 _ (List.mem_cons_of_mem _ wf_X4_53)) rfl dX4_compare_1 ?_
  refine lv_istore_n (lv' := [(2, .int (σ.1 4305)), (0, .ref (ad 43)), (1, .int p0)]) S.1 S.2.1 dX4_compare_4 rfl hl (by decide) rfl (fun ls hl => ?_)
  refine lv_aload_n S.1 S.2.1 dX4_compare_5 rfl (lv_at hl 1 rfl) ?_
  refine lv_iload_n S.1 S.2.1 dX4_compare_6 rfl (lv_at hl 2 rfl) ?_
  obtain ⟨r_1, σ_1, e_1, h⟩ := b2s h
  refine cCallI S hK cKSc hKS hA (hrc.2.2.2.2.2.2.2.2.1 e_1) (cwX4_113 S.2.2.2.2 (rm := (rmSC4 d)) rfl rfl ⟨by dsimp only [rmSC4]; omega, by dsimp only [rmSC4]; omega⟩) hB 43 rfl rfl rfl hl.1 rfl (lv_room (Nat.le_of_ble_eq_true rfl)) dX4_compare_7 ⟨Nat.zero_le _, Nat.zero_le _⟩ (fun H locs hB => ?_)
  refine lv_istore_n (lv' := [(3, .int r_1), (2, .int (σ.1 4305)), (0, .ref (ad 43)), (1, .int p0)]) S.1 S.2.1 dX4_compare_10 rfl hl (by decide) rfl (fun ls hl => ?_)
  refine lv_aload_n S.1 S.2.1 dX4_compare_11 rfl (lv_at hl 2 rfl) ?_
  refine tg_43_4 S hK hB (S.2.2.2.2 _ (List.mem_cons_of_mem _ wf_X4_34)) rfl dX4_compare_12 ?_
  refine lv_istore (lv' := [(4, .int (σ_1.1 4304)), (3, .int r_1), (2, .int (σ.1 4305)), (0, .ref (ad 43)), (1, .int p0)]) S.1 S.2.1 dX4_compare_15 hl (by decide) rfl (fun ls hl => ?_)
  refine lv_iload S.1 S.2.1 dX4_compare_17 (lv_at hl 0 rfl) ?_
  refine lv_bipush (v := (44 : Int32)) S.1 S.2.1 dX4_compare_19 (by decide) ?_
  refine lv_icmp_lt (tgt := 31) S.1 S.2.1 dX4_compare_21 (by decide) (fun c_2 => ?_) (fun c_2 => ?_)
  · replace h := (if_pos c_2).symm.trans h
    exact P31  _ _ _ _ h hB (lv_sub hl [3] rfl)
  · replace h := (if_neg c_2).symm.trans h
    refine lv_iload S.1 S.2.1 dX4_compare_24 (lv_at hl 0 rfl) ?_
    refine lv_bipush (v := (49 : Int32)) S.1 S.2.1 dX4_compare_26 (by decide) ?_
    refine lv_icmp_le (tgt := 37) S.1 S.2.1 dX4_compare_28 (by decide) (fun c_4 => ?_) (fun c_4 => ?_)
    · replace h := (if_pos c_4).symm.trans h
      refine lv_aload_n S.1 S.2.1 dX4_compare_37 rfl (lv_at hl 3 rfl) ?_
      obtain ⟨_, σ_5, e_5, h⟩ := b2s h
      refine cCallV S hK cKSc hKS hA (kX4_advance e_5) (cwX4_75 S.2.2.2.2 (rm := rmX4_advance) rfl rfl ⟨by dsimp only [rmSC4, rmX4_advance]; omega, by dsimp only [rmSC4, rmX4_advance]; omega⟩) hB 43 rfl rfl rfl hl.1 rfl (lv_room (Nat.le_of_ble_eq_true rfl)) dX4_compare_38 ⟨Nat.zero_le _, Nat.zero_le _⟩ (fun H locs hB => ?_)
      refine lv_aload_n S.1 S.2.1 dX4_compare_41 rfl (lv_at hl 3 rfl) ?_
      refine lv_iload_n S.1 S.2.1 dX4_compare_42 rfl (lv_at hl 4 rfl) ?_
      obtain ⟨r_6, σ_6, e_6, h⟩ := b2s h
      refine cCallI S hK cKSc hKS hA (hrc.2.2.2.2.2.2.2.2.1 e_6) (cwX4_113 S.2.2.2.2 (rm := (rmSC4 d)) rfl rfl ⟨by dsimp only [rmSC4]; omega, by dsimp only [rmSC4]; omega⟩) hB 43 rfl rfl rfl hl.1 rfl (lv_room (Nat.le_of_ble_eq_true rfl)) dX4_compare_43 ⟨Nat.zero_le _, Nat.zero_le _⟩ (fun H locs hB => ?_)
      refine lv_istore (lv' := [(5, .int r_6), (4, .int (σ_1.1 4304)), (3, .int r_1), (2, .int (σ.1 4305)), (0, .ref (ad 43)), (1, .int p0)]) S.1 S.2.1 dX4_compare_46 hl (by decide) rfl (fun ls hl => ?_)
      refine lv_aload_n S.1 S.2.1 dX4_compare_48 rfl (lv_at hl 4 rfl) ?_
      refine tg_43_1 S hK hB (S.2.2.2.2 _ (List.mem_cons_of_mem _ wf_X4_15)) dX4_compare_49 ?_
      refine lv_iload S.1 S.2.1 dX4_compare_52 (lv_at hl 1 rfl) ?_
      refine lv_iload_n S.1 S.2.1 dX4_compare_54 rfl (lv_at hl 3 rfl) ?_
      refine lv_iload_n S.1 S.2.1 dX4_compare_55 rfl (lv_at hl 2 rfl) ?_
      refine lv_iload S.1 S.2.1 dX4_compare_56 (lv_at hl 0 rfl) ?_
      obtain ⟨r_7, σ_7, e_7, h⟩ := b2s h
      refine cCallI S hK cKSc hKS hA (kX3_add e_7) (cwX4_149 S.2.2.2.2 (rm := rmX3_add) rfl rfl ⟨by dsimp only [rmSC4, rmX3_add]; omega, by dsimp only [rmSC4, rmX3_add]; omega⟩) hB 13 rfl rfl rfl hl.1 rfl (lv_room (Nat.le_of_ble_eq_true rfl)) dX4_compare_58 ⟨Nat.zero_le _, Nat.zero_le _⟩ (fun H locs hB => ?_)
      cases h
      exact gRetI S.1 S.2.1 hr hlk hB dX4_compare_61
    · replace h := (if_neg c_4).symm.trans h
      exact P31  _ _ _ _ h hB (lv_sub hl [3] rfl)
def FX4_expression_40 (rc : RCc) (L : Nat) (k14 : Int32 → Int32 → Int32 → Int32 → CS → Option (Int32 × CS)) (x1 : Int32) (x2 : Int32) (x3 : Int32) (x4 : Int32) (σ1 : CS) : Option (Int32 × CS) :=
    b2 (FX4_advance σ1) fun (_ : Unit) σ_4 =>
    b2 (rc 9 x1 σ_4) fun r_5 σ_5 =>
    b2 (FX3_add (σ1.1 4304) x2 x3 r_5 σ_5) fun r_6 σ_6 =>
    k14 x1 x2 r_6 (x4 + (1 : Int32)) σ_6
def FX4_expression_14 (rc : RCc) (L : Nat)  : Nat → Int32 → Int32 → Int32 → Int32 → CS → Option (Int32 × CS)
  | 0, _, _, _, _, _ => none
  | n+1, x1, x2, x3, x4, σ1 =>
    if (400 : Int32) ≤ x4 then
      some (x3, σ1)
    else
      if (σ1.1 4304) = (39 : Int32) then
        FX4_expression_40 rc L (FX4_expression_14 rc L n) x1 x2 x3 x4 σ1
      else
        if (σ1.1 4304) = (40 : Int32) then
          FX4_expression_40 rc L (FX4_expression_14 rc L n) x1 x2 x3 x4 σ1
        else
          some (x3, σ1)
def FX4_expression (rc : RCc) (L : Nat) (p0 : Int32) (σ : CS) : Option (Int32 × CS) :=
  b2 (rc 9 p0 σ) fun r_1 σ_1 =>
  FX4_expression_14 rc L L p0 (σ.1 4305) r_1 (0 : Int32) σ_1
set_option maxRecDepth 100000 in
set_option maxHeartbeats 4000000 in
theorem kX4_expression {l : Launch} {D : va_G} {cI cJ cQ : ClassId} {ad : Nat → Nat} {ra : Nat → Nat → Nat} {adK adV tK : Nat → Nat} {L : Nat} {d : Nat} {rc : RCc} (hrc : SC4 l D cI cJ cQ ad ra adK adV tK d rc) {p0 : Int32} {σ σ' : CS} {r : Int32} (h : FX4_expression rc L p0 σ = some (r, σ')) : gMet l yX4_expression qX4_expression (rmSC4 (d + 1)) 0 0 D vwCl [(cI, .int), (cJ, .long), (cQ, .array .long)] (cKS adK adV tK) [.ref (ad 43), .int p0] (CW cI cJ cQ ad ra σ) (CW cI cJ cQ ad ra σ') (some (.int r)) := by
  refine gMet.of (cc := cX4_expression) (maxL := 7) (ret := (some .int)) (by decide) rfl (Nat.le_of_ble_eq_true rfl) ?_
  intro p e s m args below meth c S hr hlk hnm hK hKS hA hB ls hl
  have hl : lv_has ls 7 [(0, .ref (ad 43)), (1, .int p0)] := hl
  replace S : CallFix p m c cX4_expression 7 s args (_ :: wsL_law) RX4 := S
  rw [FX4_expression] at h
  have P40 : ∀ (k14 : Int32 → Int32 → Int32 → Int32 → CS → Option (Int32 × CS)) (hk14 : ∀ (x1 : Int32) (x2 : Int32) (x3 : Int32) (x4 : Int32) (σ1 : CS) (H : Heap) (locs : List Loc) (ls : Array Slot), k14 x1 x2 x3 x4 σ1 = some (r, σ') → gB D vwCl (va_A (CW cI cJ cQ ad ra σ) s.heap.size) s.heap (CW cI cJ cQ ad ra σ1) [] H locs → lv_has ls 7 [(0, .ref (ad 43)), (1, .int x1), (2, .int x2), (3, .int x3), (4, .int x4)] → W p l e (rmSC4 (d + 1)) s m args below meth c H locs 0 0 (MQ below (gQ D vwCl (CW cI cJ cQ ad ra σ) (CW cI cJ cQ ad ra σ') (some (.int r)) s.heap.size) args s 0 0 (va_A (CW cI cJ cQ ad ra σ) s.heap.size)) (F0 m 14 ls [])), ∀ (x1 : Int32) (x2 : Int32) (x3 : Int32) (x4 : Int32) (σ1 : CS) (H : Heap) (locs : List Loc) (ls : Array Slot), FX4_expression_40 rc L k14 x1 x2 x3 x4 σ1 = some (r, σ') → gB D vwCl (va_A (CW cI cJ cQ ad ra σ) s.heap.size) s.heap (CW cI cJ cQ ad ra σ1) [] H locs → lv_has ls 7 [(0, .ref (ad 43)), (1, .int x1), (2, .int x2), (3, .int x3), (4, .int x4)] → W p l e (rmSC4 (d + 1)) s m args below meth c H locs 0 0 (MQ below (gQ D vwCl (CW cI cJ cQ ad ra σ) (CW cI cJ cQ ad ra σ') (some (.int r)) s.heap.size) args s 0 0 (va_A (CW cI cJ cQ ad ra σ) s.heap.size)) (F0 m 40 ls []) := by
    intro k14 hk14 x1 x2 x3 x4 σ1 H locs ls h hB hl
    rw [FX4_expression_40] at h
    refine lv_aload_n S.1 S.2.1 dX4_expression_40 rfl (lv_at hl 0 rfl) ?_
    refine tg_43_4 S hK hB (S.2.2.2.2 _ (List.mem_cons_of_mem _ wf_X4_34)) rfl dX4_expression_41 ?_
    refine lv_istore (lv' := [(5, .int (σ1.1 4304)), (0, .ref (ad 43)), (1, .int x1), (2, .int x2), (3, .int x3), (4, .int x4)]) S.1 S.2.1 dX4_expression_44 hl (by decide) rfl (fun ls hl => ?_)
    refine lv_aload_n S.1 S.2.1 dX4_expression_46 rfl (lv_at hl 1 rfl) ?_
    obtain ⟨_, σ_4, e_4, h⟩ := b2s h
    refine cCallV S hK cKSc hKS hA (kX4_advance e_4) (cwX4_75 S.2.2.2.2 (rm := rmX4_advance) rfl rfl ⟨by dsimp only [rmSC4, rmX4_advance]; omega, by dsimp only [rmSC4, rmX4_advance]; omega⟩) hB 43 rfl rfl rfl hl.1 rfl (lv_room (Nat.le_of_ble_eq_true rfl)) dX4_expression_47 ⟨Nat.zero_le _, Nat.zero_le _⟩ (fun H locs hB => ?_)
    refine lv_aload_n S.1 S.2.1 dX4_expression_50 rfl (lv_at hl 1 rfl) ?_
    refine lv_iload_n S.1 S.2.1 dX4_expression_51 rfl (lv_at hl 2 rfl) ?_
    obtain ⟨r_5, σ_5, e_5, h⟩ := b2s h
    refine cCallI S hK cKSc hKS hA (hrc.2.2.2.2.2.2.2.2.2.1 e_5) (cwX4_192 S.2.2.2.2 (rm := (rmSC4 d)) rfl rfl ⟨by dsimp only [rmSC4]; omega, by dsimp only [rmSC4]; omega⟩) hB 43 rfl rfl rfl hl.1 rfl (lv_room (Nat.le_of_ble_eq_true rfl)) dX4_expression_52 ⟨Nat.zero_le _, Nat.zero_le _⟩ (fun H locs hB => ?_)
    refine lv_istore (lv' := [(6, .int r_5), (5, .int (σ1.1 4304)), (0, .ref (ad 43)), (1, .int x1), (2, .int x2), (3, .int x3), (4, .int x4)]) S.1 S.2.1 dX4_expression_55 hl (by decide) rfl (fun ls hl => ?_)
    refine lv_aload_n S.1 S.2.1 dX4_expression_57 rfl (lv_at hl 2 rfl) ?_
    refine tg_43_1 S hK hB (S.2.2.2.2 _ (List.mem_cons_of_mem _ wf_X4_15)) dX4_expression_58 ?_
    refine lv_iload S.1 S.2.1 dX4_expression_61 (lv_at hl 1 rfl) ?_
    refine lv_iload_n S.1 S.2.1 dX4_expression_63 rfl (lv_at hl 4 rfl) ?_
    refine lv_iload_n S.1 S.2.1 dX4_expression_64 rfl (lv_at hl 5 rfl) ?_
    refine lv_iload S.1 S.2.1 dX4_expression_65 (lv_at hl 0 rfl) ?_
    obtain ⟨r_6, σ_6, e_6, h⟩ := b2s h
    refine cCallI S hK cKSc hKS hA (kX3_add e_6) (cwX4_149 S.2.2.2.2 (rm := rmX3_add) rfl rfl ⟨by dsimp only [rmSC4, rmX3_add]; omega, by dsimp only [rmSC4, rmX3_add]; omega⟩) hB 13 rfl rfl rfl hl.1 rfl (lv_room (Nat.le_of_ble_eq_true rfl)) dX4_expression_67 ⟨Nat.zero_le _, Nat.zero_le _⟩ (fun H locs hB => ?_)
    refine lv_istore_n (lv' := [(3, .int r_6), (6, .int r_5), (5, .int (σ1.1 4304)), (0, .ref (ad 43)), (1, .int x1), (2, .int x2), (4, .int x4)]) S.1 S.2.1 dX4_expression_70 rfl hl (by decide) rfl (fun ls hl => ?_)
    refine lv_iinc (v := (x4 + (1 : Int32))) (lv' := [(4, .int (x4 + (1 : Int32))), (3, .int r_6), (6, .int r_5), (5, .int (σ1.1 4304)), (0, .ref (ad 43)), (1, .int x1), (2, .int x2)]) S.1 S.2.1 dX4_expression_71 hl (k := 6) rfl rfl (by decide) rfl (fun ls hl => ?_)
    refine lv_goto (tgt := 14) S.1 S.2.1 dX4_expression_74 (by decide) ?_
    exact hk14 _ _ _ _ _ _ _ _ h hB (lv_sub hl [4, 5, 6, 1, 0] rfl)
  have P14 : ∀  (n : Nat), ∀ (x1 : Int32) (x2 : Int32) (x3 : Int32) (x4 : Int32) (σ1 : CS) (H : Heap) (locs : List Loc) (ls : Array Slot), FX4_expression_14 rc L n x1 x2 x3 x4 σ1 = some (r, σ') → gB D vwCl (va_A (CW cI cJ cQ ad ra σ) s.heap.size) s.heap (CW cI cJ cQ ad ra σ1) [] H locs → lv_has ls 7 [(0, .ref (ad 43)), (1, .int x1), (2, .int x2), (3, .int x3), (4, .int x4)] → W p l e (rmSC4 (d + 1)) s m args below meth c H locs 0 0 (MQ below (gQ D vwCl (CW cI cJ cQ ad ra σ) (CW cI cJ cQ ad ra σ') (some (.int r)) s.heap.size) args s 0 0 (va_A (CW cI cJ cQ ad ra σ) s.heap.size)) (F0 m 14 ls []) := by
    intro n
    induction n with
    | zero => intro x1 x2 x3 x4 σ1 H locs ls h; simp only [FX4_expression_14] at h; cases h
    | succ n ih =>
      intro x1 x2 x3 x4 σ1 H locs ls h hB hl
      rw [FX4_expression_14] at h
      refine lv_iload S.1 S.2.1 dX4_expression_14 (lv_at hl 4 rfl) ?_
      refine lv_sipush (v := (400 : Int32)) S.1 S.2.1 dX4_expression_16 (by decide) ?_
      refine lv_icmp_ge (tgt := 77) S.1 S.2.1 dX4_expression_19 (by decide) (fun c_2 => ?_) (fun c_2 => ?_)
      · replace h := (if_pos c_2).symm.trans h
        refine lv_iload_n S.1 S.2.1 dX4_expression_77 rfl (lv_at hl 3 rfl) ?_
        cases h
        exact gRetI S.1 S.2.1 hr hlk hB dX4_expression_78
      · replace h := (if_neg c_2).symm.trans h
        refine lv_aload_n S.1 S.2.1 dX4_expression_22 rfl (lv_at hl 0 rfl) ?_
        refine tg_43_4 S hK hB (S.2.2.2.2 _ (List.mem_cons_of_mem _ wf_X4_34)) rfl dX4_expression_23 ?_
        refine lv_bipush (v := (39 : Int32)) S.1 S.2.1 dX4_expression_26 (by decide) ?_
        refine lv_icmp_eq (tgt := 40) S.1 S.2.1 dX4_expression_28 (by decide) (fun c_3 => ?_) (fun c_3 => ?_)
        · replace h := (if_pos c_3).symm.trans h
          exact P40 (FX4_expression_14 rc L n) ih _ _ _ _ _ _ _ _ h hB hl
        · replace h := (if_neg c_3).symm.trans h
          refine lv_aload_n S.1 S.2.1 dX4_expression_31 rfl (lv_at hl 0 rfl) ?_
          refine tg_43_4 S hK hB (S.2.2.2.2 _ (List.mem_cons_of_mem _ wf_X4_34)) rfl dX4_expression_32 ?_
          refine lv_bipush (v := (40 : Int32)) S.1 S.2.1 dX4_expression_35 (by decide) ?_
          refine lv_icmp_ne (tgt := 77) S.1 S.2.1 dX4_expression_37 (by decide) (fun c_7 => ?_) (fun c_7 => ?_)
          · replace h := (if_neg c_7).symm.trans h
            refine lv_iload_n S.1 S.2.1 dX4_expression_77 rfl (lv_at hl 3 rfl) ?_
            cases h
            exact gRetI S.1 S.2.1 hr hlk hB dX4_expression_78
          · replace h := (if_pos c_7).symm.trans h
            exact P40 (FX4_expression_14 rc L n) ih _ _ _ _ _ _ _ _ h hB hl
  refine lv_aload_n S.1 S.2.1 dX4_expression_0 rfl (lv_at hl 0 rfl) ?_
  refine tg_43_5 S hK hB (S.2.2.2.2 _ (List.mem_cons_of_mem _ wf_X4_53)) rfl dX4_expression_1 ?_
  refine lv_istore_n (lv' := [(2, .int (σ.1 4305)), (0, .ref (ad 43)), (1, .int p0)]) S.1 S.2.1 dX4_expression_4 rfl hl (by decide) rfl (fun ls hl => ?_)
  refine lv_aload_n S.1 S.2.1 dX4_expression_5 rfl (lv_at hl 1 rfl) ?_
  refine lv_iload_n S.1 S.2.1 dX4_expression_6 rfl (lv_at hl 2 rfl) ?_
  obtain ⟨r_1, σ_1, e_1, h⟩ := b2s h
  refine cCallI S hK cKSc hKS hA (hrc.2.2.2.2.2.2.2.2.2.1 e_1) (cwX4_192 S.2.2.2.2 (rm := (rmSC4 d)) rfl rfl ⟨by dsimp only [rmSC4]; omega, by dsimp only [rmSC4]; omega⟩) hB 43 rfl rfl rfl hl.1 rfl (lv_room (Nat.le_of_ble_eq_true rfl)) dX4_expression_7 ⟨Nat.zero_le _, Nat.zero_le _⟩ (fun H locs hB => ?_)
  refine lv_istore_n (lv' := [(3, .int r_1), (2, .int (σ.1 4305)), (0, .ref (ad 43)), (1, .int p0)]) S.1 S.2.1 dX4_expression_10 rfl hl (by decide) rfl (fun ls hl => ?_)
  refine lv_iconst (v := (0 : Int32)) S.1 S.2.1 dX4_expression_11 (by decide) ?_
  refine lv_istore (lv' := [(4, .int (0 : Int32)), (3, .int r_1), (2, .int (σ.1 4305)), (0, .ref (ad 43)), (1, .int p0)]) S.1 S.2.1 dX4_expression_12 hl (by decide) rfl (fun ls hl => ?_)
  exact P14  L _ _ _ _ _ _ _ _ h hB (lv_sub hl [3, 4, 2, 1, 0] rfl)
def FX4_product_14 (rc : RCc) (L : Nat)  : Nat → Int32 → Int32 → Int32 → Int32 → CS → Option (Int32 × CS)
  | 0, _, _, _, _, _ => none
  | n+1, x1, x2, x3, x4, σ1 =>
    if (400 : Int32) ≤ x4 then
      some (x3, σ1)
    else
      if (σ1.1 4304) < (41 : Int32) then
        some (x3, σ1)
      else
        if (43 : Int32) < (σ1.1 4304) then
          some (x3, σ1)
        else
          b2 (FX4_advance σ1) fun (_ : Unit) σ_5 =>
          b2 (rc 10 x1 σ_5) fun r_6 σ_6 =>
          b2 (FX3_add (σ1.1 4304) x2 x3 r_6 σ_6) fun r_7 σ_7 =>
          (FX4_product_14 rc L n) x1 x2 r_7 (x4 + (1 : Int32)) σ_7
def FX4_product (rc : RCc) (L : Nat) (p0 : Int32) (σ : CS) : Option (Int32 × CS) :=
  b2 (rc 10 p0 σ) fun r_1 σ_1 =>
  FX4_product_14 rc L L p0 (σ.1 4305) r_1 (0 : Int32) σ_1
set_option maxRecDepth 100000 in
set_option maxHeartbeats 4000000 in
theorem kX4_product {l : Launch} {D : va_G} {cI cJ cQ : ClassId} {ad : Nat → Nat} {ra : Nat → Nat → Nat} {adK adV tK : Nat → Nat} {L : Nat} {d : Nat} {rc : RCc} (hrc : SC4 l D cI cJ cQ ad ra adK adV tK d rc) {p0 : Int32} {σ σ' : CS} {r : Int32} (h : FX4_product rc L p0 σ = some (r, σ')) : gMet l yX4_product qX4_product (rmSC4 (d + 1)) 0 0 D vwCl [(cI, .int), (cJ, .long), (cQ, .array .long)] (cKS adK adV tK) [.ref (ad 43), .int p0] (CW cI cJ cQ ad ra σ) (CW cI cJ cQ ad ra σ') (some (.int r)) := by
  refine gMet.of (cc := cX4_product) (maxL := 7) (ret := (some .int)) (by decide) rfl (Nat.le_of_ble_eq_true rfl) ?_
  intro p e s m args below meth c S hr hlk hnm hK hKS hA hB ls hl
  have hl : lv_has ls 7 [(0, .ref (ad 43)), (1, .int p0)] := hl
  replace S : CallFix p m c cX4_product 7 s args (_ :: wsL_law) RX4 := S
  rw [FX4_product] at h
  have P14 : ∀  (n : Nat), ∀ (x1 : Int32) (x2 : Int32) (x3 : Int32) (x4 : Int32) (σ1 : CS) (H : Heap) (locs : List Loc) (ls : Array Slot), FX4_product_14 rc L n x1 x2 x3 x4 σ1 = some (r, σ') → gB D vwCl (va_A (CW cI cJ cQ ad ra σ) s.heap.size) s.heap (CW cI cJ cQ ad ra σ1) [] H locs → lv_has ls 7 [(0, .ref (ad 43)), (1, .int x1), (2, .int x2), (3, .int x3), (4, .int x4)] → W p l e (rmSC4 (d + 1)) s m args below meth c H locs 0 0 (MQ below (gQ D vwCl (CW cI cJ cQ ad ra σ) (CW cI cJ cQ ad ra σ') (some (.int r)) s.heap.size) args s 0 0 (va_A (CW cI cJ cQ ad ra σ) s.heap.size)) (F0 m 14 ls []) := by
    intro n
    induction n with
    | zero => intro x1 x2 x3 x4 σ1 H locs ls h; simp only [FX4_product_14] at h; cases h
    | succ n ih =>
      intro x1 x2 x3 x4 σ1 H locs ls h hB hl
      rw [FX4_product_14] at h
      refine lv_iload S.1 S.2.1 dX4_product_14 (lv_at hl 4 rfl) ?_
      refine lv_sipush (v := (400 : Int32)) S.1 S.2.1 dX4_product_16 (by decide) ?_
      refine lv_icmp_ge (tgt := 77) S.1 S.2.1 dX4_product_19 (by decide) (fun c_2 => ?_) (fun c_2 => ?_)
      · replace h := (if_pos c_2).symm.trans h
        refine lv_iload_n S.1 S.2.1 dX4_product_77 rfl (lv_at hl 3 rfl) ?_
        cases h
        exact gRetI S.1 S.2.1 hr hlk hB dX4_product_78
      · replace h := (if_neg c_2).symm.trans h
        refine lv_aload_n S.1 S.2.1 dX4_product_22 rfl (lv_at hl 0 rfl) ?_
        refine tg_43_4 S hK hB (S.2.2.2.2 _ (List.mem_cons_of_mem _ wf_X4_34)) rfl dX4_product_23 ?_
        refine lv_bipush (v := (41 : Int32)) S.1 S.2.1 dX4_product_26 (by decide) ?_
        refine lv_icmp_lt (tgt := 77) S.1 S.2.1 dX4_product_28 (by decide) (fun c_3 => ?_) (fun c_3 => ?_)
        · replace h := (if_pos c_3).symm.trans h
          refine lv_iload_n S.1 S.2.1 dX4_product_77 rfl (lv_at hl 3 rfl) ?_
          cases h
          exact gRetI S.1 S.2.1 hr hlk hB dX4_product_78
        · replace h := (if_neg c_3).symm.trans h
          refine lv_aload_n S.1 S.2.1 dX4_product_31 rfl (lv_at hl 0 rfl) ?_
          refine tg_43_4 S hK hB (S.2.2.2.2 _ (List.mem_cons_of_mem _ wf_X4_34)) rfl dX4_product_32 ?_
          refine lv_bipush (v := (43 : Int32)) S.1 S.2.1 dX4_product_35 (by decide) ?_
          refine lv_icmp_gt (tgt := 77) S.1 S.2.1 dX4_product_37 (by decide) (fun c_4 => ?_) (fun c_4 => ?_)
          · replace h := (if_pos c_4).symm.trans h
            refine lv_iload_n S.1 S.2.1 dX4_product_77 rfl (lv_at hl 3 rfl) ?_
            cases h
            exact gRetI S.1 S.2.1 hr hlk hB dX4_product_78
          · replace h := (if_neg c_4).symm.trans h
            refine lv_aload_n S.1 S.2.1 dX4_product_40 rfl (lv_at hl 0 rfl) ?_
            refine tg_43_4 S hK hB (S.2.2.2.2 _ (List.mem_cons_of_mem _ wf_X4_34)) rfl dX4_product_41 ?_
            refine lv_istore (lv' := [(5, .int (σ1.1 4304)), (0, .ref (ad 43)), (1, .int x1), (2, .int x2), (3, .int x3), (4, .int x4)]) S.1 S.2.1 dX4_product_44 hl (by decide) rfl (fun ls hl => ?_)
            refine lv_aload_n S.1 S.2.1 dX4_product_46 rfl (lv_at hl 1 rfl) ?_
            obtain ⟨_, σ_5, e_5, h⟩ := b2s h
            refine cCallV S hK cKSc hKS hA (kX4_advance e_5) (cwX4_75 S.2.2.2.2 (rm := rmX4_advance) rfl rfl ⟨by dsimp only [rmSC4, rmX4_advance]; omega, by dsimp only [rmSC4, rmX4_advance]; omega⟩) hB 43 rfl rfl rfl hl.1 rfl (lv_room (Nat.le_of_ble_eq_true rfl)) dX4_product_47 ⟨Nat.zero_le _, Nat.zero_le _⟩ (fun H locs hB => ?_)
            refine lv_aload_n S.1 S.2.1 dX4_product_50 rfl (lv_at hl 1 rfl) ?_
            refine lv_iload_n S.1 S.2.1 dX4_product_51 rfl (lv_at hl 2 rfl) ?_
            obtain ⟨r_6, σ_6, e_6, h⟩ := b2s h
            refine cCallI S hK cKSc hKS hA (hrc.2.2.2.2.2.2.2.2.2.2.1 e_6) (cwX4_195 S.2.2.2.2 (rm := (rmSC4 d)) rfl rfl ⟨by dsimp only [rmSC4]; omega, by dsimp only [rmSC4]; omega⟩) hB 43 rfl rfl rfl hl.1 rfl (lv_room (Nat.le_of_ble_eq_true rfl)) dX4_product_52 ⟨Nat.zero_le _, Nat.zero_le _⟩ (fun H locs hB => ?_)
            refine lv_istore (lv' := [(6, .int r_6), (5, .int (σ1.1 4304)), (0, .ref (ad 43)), (1, .int x1), (2, .int x2), (3, .int x3), (4, .int x4)]) S.1 S.2.1 dX4_product_55 hl (by decide) rfl (fun ls hl => ?_)
            refine lv_aload_n S.1 S.2.1 dX4_product_57 rfl (lv_at hl 2 rfl) ?_
            refine tg_43_1 S hK hB (S.2.2.2.2 _ (List.mem_cons_of_mem _ wf_X4_15)) dX4_product_58 ?_
            refine lv_iload S.1 S.2.1 dX4_product_61 (lv_at hl 1 rfl) ?_
            refine lv_iload_n S.1 S.2.1 dX4_product_63 rfl (lv_at hl 4 rfl) ?_
            refine lv_iload_n S.1 S.2.1 dX4_product_64 rfl (lv_at hl 5 rfl) ?_
            refine lv_iload S.1 S.2.1 dX4_product_65 (lv_at hl 0 rfl) ?_
            obtain ⟨r_7, σ_7, e_7, h⟩ := b2s h
            refine cCallI S hK cKSc hKS hA (kX3_add e_7) (cwX4_149 S.2.2.2.2 (rm := rmX3_add) rfl rfl ⟨by dsimp only [rmSC4, rmX3_add]; omega, by dsimp only [rmSC4, rmX3_add]; omega⟩) hB 13 rfl rfl rfl hl.1 rfl (lv_room (Nat.le_of_ble_eq_true rfl)) dX4_product_67 ⟨Nat.zero_le _, Nat.zero_le _⟩ (fun H locs hB => ?_)
            refine lv_istore_n (lv' := [(3, .int r_7), (6, .int r_6), (5, .int (σ1.1 4304)), (0, .ref (ad 43)), (1, .int x1), (2, .int x2), (4, .int x4)]) S.1 S.2.1 dX4_product_70 rfl hl (by decide) rfl (fun ls hl => ?_)
            refine lv_iinc (v := (x4 + (1 : Int32))) (lv' := [(4, .int (x4 + (1 : Int32))), (3, .int r_7), (6, .int r_6), (5, .int (σ1.1 4304)), (0, .ref (ad 43)), (1, .int x1), (2, .int x2)]) S.1 S.2.1 dX4_product_71 hl (k := 6) rfl rfl (by decide) rfl (fun ls hl => ?_)
            refine lv_goto (tgt := 14) S.1 S.2.1 dX4_product_74 (by decide) ?_
            exact ih _ _ _ _ _ _ _ _ h hB (lv_sub hl [4, 5, 6, 1, 0] rfl)
  refine lv_aload_n S.1 S.2.1 dX4_product_0 rfl (lv_at hl 0 rfl) ?_
  refine tg_43_5 S hK hB (S.2.2.2.2 _ (List.mem_cons_of_mem _ wf_X4_53)) rfl dX4_product_1 ?_
  refine lv_istore_n (lv' := [(2, .int (σ.1 4305)), (0, .ref (ad 43)), (1, .int p0)]) S.1 S.2.1 dX4_product_4 rfl hl (by decide) rfl (fun ls hl => ?_)
  refine lv_aload_n S.1 S.2.1 dX4_product_5 rfl (lv_at hl 1 rfl) ?_
  refine lv_iload_n S.1 S.2.1 dX4_product_6 rfl (lv_at hl 2 rfl) ?_
  obtain ⟨r_1, σ_1, e_1, h⟩ := b2s h
  refine cCallI S hK cKSc hKS hA (hrc.2.2.2.2.2.2.2.2.2.2.1 e_1) (cwX4_195 S.2.2.2.2 (rm := (rmSC4 d)) rfl rfl ⟨by dsimp only [rmSC4]; omega, by dsimp only [rmSC4]; omega⟩) hB 43 rfl rfl rfl hl.1 rfl (lv_room (Nat.le_of_ble_eq_true rfl)) dX4_product_7 ⟨Nat.zero_le _, Nat.zero_le _⟩ (fun H locs hB => ?_)
  refine lv_istore_n (lv' := [(3, .int r_1), (2, .int (σ.1 4305)), (0, .ref (ad 43)), (1, .int p0)]) S.1 S.2.1 dX4_product_10 rfl hl (by decide) rfl (fun ls hl => ?_)
  refine lv_iconst (v := (0 : Int32)) S.1 S.2.1 dX4_product_11 (by decide) ?_
  refine lv_istore (lv' := [(4, .int (0 : Int32)), (3, .int r_1), (2, .int (σ.1 4305)), (0, .ref (ad 43)), (1, .int p0)]) S.1 S.2.1 dX4_product_12 hl (by decide) rfl (fun ls hl => ?_)
  exact P14  L _ _ _ _ _ _ _ _ h hB (lv_sub hl [3, 4, 2, 1, 0] rfl)
def FX4_factor (rc : RCc) (L : Nat) (p0 : Int32) (σ : CS) : Option (Int32 × CS) :=
  if (σ.1 4304) = 18 then
    b2 (rc 13 p0 σ) fun r_2 σ_2 =>
    some (r_2, σ_2)
  else if (σ.1 4304) = 21 then
    b2 (rc 12 p0 σ) fun r_4 σ_4 =>
    some (r_4, σ_4)
  else if (σ.1 4304) = 22 then
    b2 (rc 12 p0 σ) fun r_6 σ_6 =>
    some (r_6, σ_6)
  else if (σ.1 4304) = 23 then
    b2 (rc 12 p0 σ) fun r_8 σ_8 =>
    some (r_8, σ_8)
  else if (σ.1 4304) = 24 then
    b2 (rc 12 p0 σ) fun r_10 σ_10 =>
    some (r_10, σ_10)
  else if (σ.1 4304) = 25 then
    b2 (rc 13 p0 σ) fun r_12 σ_12 =>
    some (r_12, σ_12)
  else if (σ.1 4304) = 26 then
    b2 (rc 13 p0 σ) fun r_14 σ_14 =>
    some (r_14, σ_14)
  else if (σ.1 4304) = 27 then
    b2 (rc 13 p0 σ) fun r_16 σ_16 =>
    some (r_16, σ_16)
  else if (σ.1 4304) = 28 then
    b2 (FX4_single (0 : Int32) σ) fun r_18 σ_18 =>
    some (r_18, σ_18)
  else if (σ.1 4304) = 29 then
    b2 (FX4_single (0 : Int32) σ) fun r_20 σ_20 =>
    some (r_20, σ_20)
  else if (σ.1 4304) = 30 then
    b2 (rc 11 p0 σ) fun r_22 σ_22 =>
    some (r_22, σ_22)
  else if (σ.1 4304) = 40 then
    b2 (rc 12 p0 σ) fun r_24 σ_24 =>
    some (r_24, σ_24)
  else if (σ.1 4304) = 51 then
    b2 (FX4_variable L σ) fun r_26 σ_26 =>
    some (r_26, σ_26)
  else if (σ.1 4304) = 52 then
    b2 (FX4_single ((σ.2.1 4306).toInt32) σ) fun r_28 σ_28 =>
    some (r_28, σ_28)
  else 
    b2 (FX4_fail σ) fun (_ : Unit) σ_29 =>
    some ((-1 : Int32), σ_29)
set_option maxRecDepth 100000 in
set_option maxHeartbeats 4000000 in
theorem kX4_factor {l : Launch} {D : va_G} {cI cJ cQ : ClassId} {ad : Nat → Nat} {ra : Nat → Nat → Nat} {adK adV tK : Nat → Nat} {L : Nat} {d : Nat} {rc : RCc} (hrc : SC4 l D cI cJ cQ ad ra adK adV tK d rc) {p0 : Int32} {σ σ' : CS} {r : Int32} (h : FX4_factor rc L p0 σ = some (r, σ')) : gMet l yX4_factor qX4_factor (rmSC4 (d + 1)) 0 0 D vwCl [(cI, .int), (cJ, .long), (cQ, .array .long)] (cKS adK adV tK) [.ref (ad 43), .int p0] (CW cI cJ cQ ad ra σ) (CW cI cJ cQ ad ra σ') (some (.int r)) := by
  refine gMet.of (cc := cX4_factor) (maxL := 2) (ret := (some .int)) (by decide) rfl (Nat.le_of_ble_eq_true rfl) ?_
  intro p e s m args below meth c S hr hlk hnm hK hKS hA hB ls hl
  have hl : lv_has ls 2 [(0, .ref (ad 43)), (1, .int p0)] := hl
  replace S : CallFix p m c cX4_factor 2 s args (_ :: wsL_law) RX4 := S
  rw [FX4_factor] at h
  refine lv_aload_n S.1 S.2.1 dX4_factor_0 rfl (lv_at hl 0 rfl) ?_
  refine tg_43_4 S hK hB (S.2.2.2.2 _ (List.mem_cons_of_mem _ wf_X4_34)) rfl dX4_factor_1 ?_
  by_cases c_1 : (σ.1 4304) = 18
  · replace h := (if_pos c_1).symm.trans h
    refine lv_tableIn (off := 189) (tgt := 193) S.1 S.2.1 dX4_factor_4 (by rw [c_1]; decide) (by rw [c_1]; decide) (by rw [c_1]; rfl) (by decide) ?_
    refine lv_aload_n S.1 S.2.1 dX4_factor_193 rfl (lv_at hl 0 rfl) ?_
    refine lv_iload_n S.1 S.2.1 dX4_factor_194 rfl (lv_at hl 1 rfl) ?_
    obtain ⟨r_2, σ_2, e_2, h⟩ := b2s h
    refine cCallI S hK cKSc hKS hA (hrc.2.2.2.2.2.2.2.2.2.2.2.2.2 e_2) (cwX4_207 S.2.2.2.2 (rm := (rmSC4 d)) rfl rfl ⟨by dsimp only [rmSC4]; omega, by dsimp only [rmSC4]; omega⟩) hB 43 rfl rfl rfl hl.1 rfl (lv_room (Nat.le_of_ble_eq_true rfl)) dX4_factor_195 ⟨Nat.zero_le _, Nat.zero_le _⟩ (fun H locs hB => ?_)
    cases h
    exact gRetI S.1 S.2.1 hr hlk hB dX4_factor_198
  · replace h := (if_neg c_1).symm.trans h
    by_cases c_3 : (σ.1 4304) = 21
    · replace h := (if_pos c_3).symm.trans h
      refine lv_tableIn (off := 183) (tgt := 187) S.1 S.2.1 dX4_factor_4 (by rw [c_3]; decide) (by rw [c_3]; decide) (by rw [c_3]; rfl) (by decide) ?_
      refine lv_aload_n S.1 S.2.1 dX4_factor_187 rfl (lv_at hl 0 rfl) ?_
      refine lv_iload_n S.1 S.2.1 dX4_factor_188 rfl (lv_at hl 1 rfl) ?_
      obtain ⟨r_4, σ_4, e_4, h⟩ := b2s h
      refine cCallI S hK cKSc hKS hA (hrc.2.2.2.2.2.2.2.2.2.2.2.2.1 e_4) (cwX4_204 S.2.2.2.2 (rm := (rmSC4 d)) rfl rfl ⟨by dsimp only [rmSC4]; omega, by dsimp only [rmSC4]; omega⟩) hB 43 rfl rfl rfl hl.1 rfl (lv_room (Nat.le_of_ble_eq_true rfl)) dX4_factor_189 ⟨Nat.zero_le _, Nat.zero_le _⟩ (fun H locs hB => ?_)
      cases h
      exact gRetI S.1 S.2.1 hr hlk hB dX4_factor_192
    · replace h := (if_neg c_3).symm.trans h
      by_cases c_5 : (σ.1 4304) = 22
      · replace h := (if_pos c_5).symm.trans h
        refine lv_tableIn (off := 183) (tgt := 187) S.1 S.2.1 dX4_factor_4 (by rw [c_5]; decide) (by rw [c_5]; decide) (by rw [c_5]; rfl) (by decide) ?_
        refine lv_aload_n S.1 S.2.1 dX4_factor_187 rfl (lv_at hl 0 rfl) ?_
        refine lv_iload_n S.1 S.2.1 dX4_factor_188 rfl (lv_at hl 1 rfl) ?_
        obtain ⟨r_6, σ_6, e_6, h⟩ := b2s h
        refine cCallI S hK cKSc hKS hA (hrc.2.2.2.2.2.2.2.2.2.2.2.2.1 e_6) (cwX4_204 S.2.2.2.2 (rm := (rmSC4 d)) rfl rfl ⟨by dsimp only [rmSC4]; omega, by dsimp only [rmSC4]; omega⟩) hB 43 rfl rfl rfl hl.1 rfl (lv_room (Nat.le_of_ble_eq_true rfl)) dX4_factor_189 ⟨Nat.zero_le _, Nat.zero_le _⟩ (fun H locs hB => ?_)
        cases h
        exact gRetI S.1 S.2.1 hr hlk hB dX4_factor_192
      · replace h := (if_neg c_5).symm.trans h
        by_cases c_7 : (σ.1 4304) = 23
        · replace h := (if_pos c_7).symm.trans h
          refine lv_tableIn (off := 183) (tgt := 187) S.1 S.2.1 dX4_factor_4 (by rw [c_7]; decide) (by rw [c_7]; decide) (by rw [c_7]; rfl) (by decide) ?_
          refine lv_aload_n S.1 S.2.1 dX4_factor_187 rfl (lv_at hl 0 rfl) ?_
          refine lv_iload_n S.1 S.2.1 dX4_factor_188 rfl (lv_at hl 1 rfl) ?_
          obtain ⟨r_8, σ_8, e_8, h⟩ := b2s h
          refine cCallI S hK cKSc hKS hA (hrc.2.2.2.2.2.2.2.2.2.2.2.2.1 e_8) (cwX4_204 S.2.2.2.2 (rm := (rmSC4 d)) rfl rfl ⟨by dsimp only [rmSC4]; omega, by dsimp only [rmSC4]; omega⟩) hB 43 rfl rfl rfl hl.1 rfl (lv_room (Nat.le_of_ble_eq_true rfl)) dX4_factor_189 ⟨Nat.zero_le _, Nat.zero_le _⟩ (fun H locs hB => ?_)
          cases h
          exact gRetI S.1 S.2.1 hr hlk hB dX4_factor_192
        · replace h := (if_neg c_7).symm.trans h
          by_cases c_9 : (σ.1 4304) = 24
          · replace h := (if_pos c_9).symm.trans h
            refine lv_tableIn (off := 183) (tgt := 187) S.1 S.2.1 dX4_factor_4 (by rw [c_9]; decide) (by rw [c_9]; decide) (by rw [c_9]; rfl) (by decide) ?_
            refine lv_aload_n S.1 S.2.1 dX4_factor_187 rfl (lv_at hl 0 rfl) ?_
            refine lv_iload_n S.1 S.2.1 dX4_factor_188 rfl (lv_at hl 1 rfl) ?_
            obtain ⟨r_10, σ_10, e_10, h⟩ := b2s h
            refine cCallI S hK cKSc hKS hA (hrc.2.2.2.2.2.2.2.2.2.2.2.2.1 e_10) (cwX4_204 S.2.2.2.2 (rm := (rmSC4 d)) rfl rfl ⟨by dsimp only [rmSC4]; omega, by dsimp only [rmSC4]; omega⟩) hB 43 rfl rfl rfl hl.1 rfl (lv_room (Nat.le_of_ble_eq_true rfl)) dX4_factor_189 ⟨Nat.zero_le _, Nat.zero_le _⟩ (fun H locs hB => ?_)
            cases h
            exact gRetI S.1 S.2.1 hr hlk hB dX4_factor_192
          · replace h := (if_neg c_9).symm.trans h
            by_cases c_11 : (σ.1 4304) = 25
            · replace h := (if_pos c_11).symm.trans h
              refine lv_tableIn (off := 189) (tgt := 193) S.1 S.2.1 dX4_factor_4 (by rw [c_11]; decide) (by rw [c_11]; decide) (by rw [c_11]; rfl) (by decide) ?_
              refine lv_aload_n S.1 S.2.1 dX4_factor_193 rfl (lv_at hl 0 rfl) ?_
              refine lv_iload_n S.1 S.2.1 dX4_factor_194 rfl (lv_at hl 1 rfl) ?_
              obtain ⟨r_12, σ_12, e_12, h⟩ := b2s h
              refine cCallI S hK cKSc hKS hA (hrc.2.2.2.2.2.2.2.2.2.2.2.2.2 e_12) (cwX4_207 S.2.2.2.2 (rm := (rmSC4 d)) rfl rfl ⟨by dsimp only [rmSC4]; omega, by dsimp only [rmSC4]; omega⟩) hB 43 rfl rfl rfl hl.1 rfl (lv_room (Nat.le_of_ble_eq_true rfl)) dX4_factor_195 ⟨Nat.zero_le _, Nat.zero_le _⟩ (fun H locs hB => ?_)
              cases h
              exact gRetI S.1 S.2.1 hr hlk hB dX4_factor_198
            · replace h := (if_neg c_11).symm.trans h
              by_cases c_13 : (σ.1 4304) = 26
              · replace h := (if_pos c_13).symm.trans h
                refine lv_tableIn (off := 189) (tgt := 193) S.1 S.2.1 dX4_factor_4 (by rw [c_13]; decide) (by rw [c_13]; decide) (by rw [c_13]; rfl) (by decide) ?_
                refine lv_aload_n S.1 S.2.1 dX4_factor_193 rfl (lv_at hl 0 rfl) ?_
                refine lv_iload_n S.1 S.2.1 dX4_factor_194 rfl (lv_at hl 1 rfl) ?_
                obtain ⟨r_14, σ_14, e_14, h⟩ := b2s h
                refine cCallI S hK cKSc hKS hA (hrc.2.2.2.2.2.2.2.2.2.2.2.2.2 e_14) (cwX4_207 S.2.2.2.2 (rm := (rmSC4 d)) rfl rfl ⟨by dsimp only [rmSC4]; omega, by dsimp only [rmSC4]; omega⟩) hB 43 rfl rfl rfl hl.1 rfl (lv_room (Nat.le_of_ble_eq_true rfl)) dX4_factor_195 ⟨Nat.zero_le _, Nat.zero_le _⟩ (fun H locs hB => ?_)
                cases h
                exact gRetI S.1 S.2.1 hr hlk hB dX4_factor_198
              · replace h := (if_neg c_13).symm.trans h
                by_cases c_15 : (σ.1 4304) = 27
                · replace h := (if_pos c_15).symm.trans h
                  refine lv_tableIn (off := 189) (tgt := 193) S.1 S.2.1 dX4_factor_4 (by rw [c_15]; decide) (by rw [c_15]; decide) (by rw [c_15]; rfl) (by decide) ?_
                  refine lv_aload_n S.1 S.2.1 dX4_factor_193 rfl (lv_at hl 0 rfl) ?_
                  refine lv_iload_n S.1 S.2.1 dX4_factor_194 rfl (lv_at hl 1 rfl) ?_
                  obtain ⟨r_16, σ_16, e_16, h⟩ := b2s h
                  refine cCallI S hK cKSc hKS hA (hrc.2.2.2.2.2.2.2.2.2.2.2.2.2 e_16) (cwX4_207 S.2.2.2.2 (rm := (rmSC4 d)) rfl rfl ⟨by dsimp only [rmSC4]; omega, by dsimp only [rmSC4]; omega⟩) hB 43 rfl rfl rfl hl.1 rfl (lv_room (Nat.le_of_ble_eq_true rfl)) dX4_factor_195 ⟨Nat.zero_le _, Nat.zero_le _⟩ (fun H locs hB => ?_)
                  cases h
                  exact gRetI S.1 S.2.1 hr hlk hB dX4_factor_198
                · replace h := (if_neg c_15).symm.trans h
                  by_cases c_17 : (σ.1 4304) = 28
                  · replace h := (if_pos c_17).symm.trans h
                    refine lv_tableIn (off := 166) (tgt := 170) S.1 S.2.1 dX4_factor_4 (by rw [c_17]; decide) (by rw [c_17]; decide) (by rw [c_17]; rfl) (by decide) ?_
                    refine lv_aload_n S.1 S.2.1 dX4_factor_170 rfl (lv_at hl 0 rfl) ?_
                    refine lv_iconst (v := (0 : Int32)) S.1 S.2.1 dX4_factor_171 (by decide) ?_
                    obtain ⟨r_18, σ_18, e_18, h⟩ := b2s h
                    refine cCallI S hK cKSc hKS hA (kX4_single e_18) (cwX4_174 S.2.2.2.2 (rm := rmX4_single) rfl rfl ⟨by dsimp only [rmSC4, rmX4_single]; omega, by dsimp only [rmSC4, rmX4_single]; omega⟩) hB 43 rfl rfl rfl hl.1 rfl (lv_room (Nat.le_of_ble_eq_true rfl)) dX4_factor_172 ⟨Nat.zero_le _, Nat.zero_le _⟩ (fun H locs hB => ?_)
                    cases h
                    exact gRetI S.1 S.2.1 hr hlk hB dX4_factor_175
                  · replace h := (if_neg c_17).symm.trans h
                    by_cases c_19 : (σ.1 4304) = 29
                    · replace h := (if_pos c_19).symm.trans h
                      refine lv_tableIn (off := 166) (tgt := 170) S.1 S.2.1 dX4_factor_4 (by rw [c_19]; decide) (by rw [c_19]; decide) (by rw [c_19]; rfl) (by decide) ?_
                      refine lv_aload_n S.1 S.2.1 dX4_factor_170 rfl (lv_at hl 0 rfl) ?_
                      refine lv_iconst (v := (0 : Int32)) S.1 S.2.1 dX4_factor_171 (by decide) ?_
                      obtain ⟨r_20, σ_20, e_20, h⟩ := b2s h
                      refine cCallI S hK cKSc hKS hA (kX4_single e_20) (cwX4_174 S.2.2.2.2 (rm := rmX4_single) rfl rfl ⟨by dsimp only [rmSC4, rmX4_single]; omega, by dsimp only [rmSC4, rmX4_single]; omega⟩) hB 43 rfl rfl rfl hl.1 rfl (lv_room (Nat.le_of_ble_eq_true rfl)) dX4_factor_172 ⟨Nat.zero_le _, Nat.zero_le _⟩ (fun H locs hB => ?_)
                      cases h
                      exact gRetI S.1 S.2.1 hr hlk hB dX4_factor_175
                    · replace h := (if_neg c_19).symm.trans h
                      by_cases c_21 : (σ.1 4304) = 30
                      · replace h := (if_pos c_21).symm.trans h
                        refine lv_tableIn (off := 177) (tgt := 181) S.1 S.2.1 dX4_factor_4 (by rw [c_21]; decide) (by rw [c_21]; decide) (by rw [c_21]; rfl) (by decide) ?_
                        refine lv_aload_n S.1 S.2.1 dX4_factor_181 rfl (lv_at hl 0 rfl) ?_
                        refine lv_iload_n S.1 S.2.1 dX4_factor_182 rfl (lv_at hl 1 rfl) ?_
                        obtain ⟨r_22, σ_22, e_22, h⟩ := b2s h
                        refine cCallI S hK cKSc hKS hA (hrc.2.2.2.2.2.2.2.2.2.2.2.1 e_22) (cwX4_201 S.2.2.2.2 (rm := (rmSC4 d)) rfl rfl ⟨by dsimp only [rmSC4]; omega, by dsimp only [rmSC4]; omega⟩) hB 43 rfl rfl rfl hl.1 rfl (lv_room (Nat.le_of_ble_eq_true rfl)) dX4_factor_183 ⟨Nat.zero_le _, Nat.zero_le _⟩ (fun H locs hB => ?_)
                        cases h
                        exact gRetI S.1 S.2.1 hr hlk hB dX4_factor_186
                      · replace h := (if_neg c_21).symm.trans h
                        by_cases c_23 : (σ.1 4304) = 40
                        · replace h := (if_pos c_23).symm.trans h
                          refine lv_tableIn (off := 183) (tgt := 187) S.1 S.2.1 dX4_factor_4 (by rw [c_23]; decide) (by rw [c_23]; decide) (by rw [c_23]; rfl) (by decide) ?_
                          refine lv_aload_n S.1 S.2.1 dX4_factor_187 rfl (lv_at hl 0 rfl) ?_
                          refine lv_iload_n S.1 S.2.1 dX4_factor_188 rfl (lv_at hl 1 rfl) ?_
                          obtain ⟨r_24, σ_24, e_24, h⟩ := b2s h
                          refine cCallI S hK cKSc hKS hA (hrc.2.2.2.2.2.2.2.2.2.2.2.2.1 e_24) (cwX4_204 S.2.2.2.2 (rm := (rmSC4 d)) rfl rfl ⟨by dsimp only [rmSC4]; omega, by dsimp only [rmSC4]; omega⟩) hB 43 rfl rfl rfl hl.1 rfl (lv_room (Nat.le_of_ble_eq_true rfl)) dX4_factor_189 ⟨Nat.zero_le _, Nat.zero_le _⟩ (fun H locs hB => ?_)
                          cases h
                          exact gRetI S.1 S.2.1 hr hlk hB dX4_factor_192
                        · replace h := (if_neg c_23).symm.trans h
                          by_cases c_25 : (σ.1 4304) = 51
                          · replace h := (if_pos c_25).symm.trans h
                            refine lv_tableIn (off := 172) (tgt := 176) S.1 S.2.1 dX4_factor_4 (by rw [c_25]; decide) (by rw [c_25]; decide) (by rw [c_25]; rfl) (by decide) ?_
                            refine lv_aload_n S.1 S.2.1 dX4_factor_176 rfl (lv_at hl 0 rfl) ?_
                            obtain ⟨r_26, σ_26, e_26, h⟩ := b2s h
                            refine cCallI S hK cKSc hKS hA (kX4_variable e_26) (cwX4_198 S.2.2.2.2 (rm := rmX4_variable) rfl rfl ⟨by dsimp only [rmSC4, rmX4_variable]; omega, by dsimp only [rmSC4, rmX4_variable]; omega⟩) hB 43 rfl rfl rfl hl.1 rfl (lv_room (Nat.le_of_ble_eq_true rfl)) dX4_factor_177 ⟨Nat.zero_le _, Nat.zero_le _⟩ (fun H locs hB => ?_)
                            cases h
                            exact gRetI S.1 S.2.1 hr hlk hB dX4_factor_180
                          · replace h := (if_neg c_25).symm.trans h
                            by_cases c_27 : (σ.1 4304) = 52
                            · replace h := (if_pos c_27).symm.trans h
                              refine lv_tableIn (off := 156) (tgt := 160) S.1 S.2.1 dX4_factor_4 (by rw [c_27]; decide) (by rw [c_27]; decide) (by rw [c_27]; rfl) (by decide) ?_
                              refine lv_aload_n S.1 S.2.1 dX4_factor_160 rfl (lv_at hl 0 rfl) ?_
                              refine lv_aload_n S.1 S.2.1 dX4_factor_161 rfl (lv_at hl 0 rfl) ?_
                              refine tg_43_6 S hK hB (S.2.2.2.2 _ (List.mem_cons_of_mem _ wf_X4_95)) rfl dX4_factor_162 ?_
                              refine lv_l2i (v := ((σ.2.1 4306).toInt32)) S.1 S.2.1 dX4_factor_165 rfl ?_
                              obtain ⟨r_28, σ_28, e_28, h⟩ := b2s h
                              refine cCallI S hK cKSc hKS hA (kX4_single e_28) (cwX4_174 S.2.2.2.2 (rm := rmX4_single) rfl rfl ⟨by dsimp only [rmSC4, rmX4_single]; omega, by dsimp only [rmSC4, rmX4_single]; omega⟩) hB 43 rfl rfl rfl hl.1 rfl (lv_room (Nat.le_of_ble_eq_true rfl)) dX4_factor_166 ⟨Nat.zero_le _, Nat.zero_le _⟩ (fun H locs hB => ?_)
                              cases h
                              exact gRetI S.1 S.2.1 hr hlk hB dX4_factor_169
                            · replace h := (if_neg c_27).symm.trans h
                              refine swT (tgt := 199) (cs := [18, 21, 22, 23, 24, 25, 26, 27, 28, 29, 30, 40, 51, 52]) S.1 S.2.1 dX4_factor_4 (List.forall_mem_cons.mpr ⟨lv_neT c_1 (by decide), List.forall_mem_cons.mpr ⟨lv_neT c_3 (by decide), List.forall_mem_cons.mpr ⟨lv_neT c_5 (by decide), List.forall_mem_cons.mpr ⟨lv_neT c_7 (by decide), List.forall_mem_cons.mpr ⟨lv_neT c_9 (by decide), List.forall_mem_cons.mpr ⟨lv_neT c_11 (by decide), List.forall_mem_cons.mpr ⟨lv_neT c_13 (by decide), List.forall_mem_cons.mpr ⟨lv_neT c_15 (by decide), List.forall_mem_cons.mpr ⟨lv_neT c_17 (by decide), List.forall_mem_cons.mpr ⟨lv_neT c_19 (by decide), List.forall_mem_cons.mpr ⟨lv_neT c_21 (by decide), List.forall_mem_cons.mpr ⟨lv_neT c_23 (by decide), List.forall_mem_cons.mpr ⟨lv_neT c_25 (by decide), List.forall_mem_cons.mpr ⟨lv_neT c_27 (by decide), List.forall_mem_nil _⟩⟩⟩⟩⟩⟩⟩⟩⟩⟩⟩⟩⟩⟩) (by decide) (by decide) (by decide) ?_
                              refine lv_aload_n S.1 S.2.1 dX4_factor_199 rfl (lv_at hl 0 rfl) ?_
                              obtain ⟨_, σ_29, e_29, h⟩ := b2s h
                              refine cCallV S hK cKSc hKS hA (kX4_fail e_29) (cwX4_63 S.2.2.2.2 (rm := rmX4_fail) rfl rfl ⟨by dsimp only [rmSC4, rmX4_fail]; omega, by dsimp only [rmSC4, rmX4_fail]; omega⟩) hB 43 rfl rfl rfl hl.1 rfl (lv_room (Nat.le_of_ble_eq_true rfl)) dX4_factor_200 ⟨Nat.zero_le _, Nat.zero_le _⟩ (fun H locs hB => ?_)
                              refine lv_iconst (v := (-1 : Int32)) S.1 S.2.1 dX4_factor_203 (by decide) ?_
                              cases h
                              exact gRetI S.1 S.2.1 hr hlk hB dX4_factor_204
def FX4_bracketed (rc : RCc) (p0 : Int32) (σ : CS) : Option (Int32 × CS) :=
  b2 (FX4_deepen p0 σ) fun (_ : Unit) σ_1 =>
  b2 (rc 8 (p0 + (1 : Int32)) σ_1) fun r_2 σ_2 =>
  b2 (FX4_expect (31 : Int32) σ_2) fun (_ : Unit) σ_3 =>
  some (r_2, σ_3)
set_option maxRecDepth 100000 in
set_option maxHeartbeats 4000000 in
theorem kX4_bracketed {l : Launch} {D : va_G} {cI cJ cQ : ClassId} {ad : Nat → Nat} {ra : Nat → Nat → Nat} {adK adV tK : Nat → Nat} {d : Nat} {rc : RCc} (hrc : SC4 l D cI cJ cQ ad ra adK adV tK d rc) {p0 : Int32} {σ σ' : CS} {r : Int32} (h : FX4_bracketed rc p0 σ = some (r, σ')) : gMet l yX4_bracketed qX4_bracketed (rmSC4 (d + 1)) 0 0 D vwCl [(cI, .int), (cJ, .long), (cQ, .array .long)] (cKS adK adV tK) [.ref (ad 43), .int p0] (CW cI cJ cQ ad ra σ) (CW cI cJ cQ ad ra σ') (some (.int r)) := by
  refine gMet.of (cc := cX4_bracketed) (maxL := 3) (ret := (some .int)) (by decide) rfl (Nat.le_of_ble_eq_true rfl) ?_
  intro p e s m args below meth c S hr hlk hnm hK hKS hA hB ls hl
  have hl : lv_has ls 3 [(0, .ref (ad 43)), (1, .int p0)] := hl
  replace S : CallFix p m c cX4_bracketed 3 s args (_ :: wsL_law) RX4 := S
  rw [FX4_bracketed] at h
  refine lv_aload_n S.1 S.2.1 dX4_bracketed_0 rfl (lv_at hl 0 rfl) ?_
  refine lv_iload_n S.1 S.2.1 dX4_bracketed_1 rfl (lv_at hl 1 rfl) ?_
  obtain ⟨_, σ_1, e_1, h⟩ := b2s h
  refine cCallV S hK cKSc hKS hA (kX4_deepen e_1) (cwX4_183 S.2.2.2.2 (rm := rmX4_deepen) rfl rfl ⟨by dsimp only [rmSC4, rmX4_deepen]; omega, by dsimp only [rmSC4, rmX4_deepen]; omega⟩) hB 43 rfl rfl rfl hl.1 rfl (lv_room (Nat.le_of_ble_eq_true rfl)) dX4_bracketed_2 ⟨Nat.zero_le _, Nat.zero_le _⟩ (fun H locs hB => ?_)
  refine lv_aload_n S.1 S.2.1 dX4_bracketed_5 rfl (lv_at hl 0 rfl) ?_
  refine lv_iload_n S.1 S.2.1 dX4_bracketed_6 rfl (lv_at hl 1 rfl) ?_
  refine lv_iconst (v := (1 : Int32)) S.1 S.2.1 dX4_bracketed_7 (by decide) ?_
  refine lv_iadd S.1 S.2.1 dX4_bracketed_8 ?_
  obtain ⟨r_2, σ_2, e_2, h⟩ := b2s h
  refine cCallI S hK cKSc hKS hA (hrc.2.2.2.2.2.2.2.2.1 e_2) (cwX4_113 S.2.2.2.2 (rm := (rmSC4 d)) rfl rfl ⟨by dsimp only [rmSC4]; omega, by dsimp only [rmSC4]; omega⟩) hB 43 rfl rfl rfl hl.1 rfl (lv_room (Nat.le_of_ble_eq_true rfl)) dX4_bracketed_9 ⟨Nat.zero_le _, Nat.zero_le _⟩ (fun H locs hB => ?_)
  refine lv_istore_n (lv' := [(2, .int r_2), (0, .ref (ad 43)), (1, .int p0)]) S.1 S.2.1 dX4_bracketed_12 rfl hl (by decide) rfl (fun ls hl => ?_)
  refine lv_aload_n S.1 S.2.1 dX4_bracketed_13 rfl (lv_at hl 1 rfl) ?_
  refine lv_bipush (v := (31 : Int32)) S.1 S.2.1 dX4_bracketed_14 (by decide) ?_
  obtain ⟨_, σ_3, e_3, h⟩ := b2s h
  refine cCallV S hK cKSc hKS hA (kX4_expect e_3) (cwX4_106 S.2.2.2.2 (rm := rmX4_expect) rfl rfl ⟨by dsimp only [rmSC4, rmX4_expect]; omega, by dsimp only [rmSC4, rmX4_expect]; omega⟩) hB 43 rfl rfl rfl hl.1 rfl (lv_room (Nat.le_of_ble_eq_true rfl)) dX4_bracketed_16 ⟨Nat.zero_le _, Nat.zero_le _⟩ (fun H locs hB => ?_)
  refine lv_iload_n S.1 S.2.1 dX4_bracketed_19 rfl (lv_at hl 0 rfl) ?_
  cases h
  exact gRetI S.1 S.2.1 hr hlk hB dX4_bracketed_20
def FX4_prefixedFactor_18 (rc : RCc)  (x1 : Int32) (y0 : Int32) (σ1 : CS) : Option (Int32 × CS) :=
    b2 (FX4_deepen x1 σ1) fun (_ : Unit) σ_2 =>
    b2 (rc 10 (x1 + (1 : Int32)) σ_2) fun r_3 σ_3 =>
    b2 (FX3_add y0 (σ1.1 4305) r_3 (-1 : Int32) σ_3) fun r_4 σ_4 =>
    some (r_4, σ_4)
def FX4_prefixedFactor (rc : RCc) (p0 : Int32) (σ : CS) : Option (Int32 × CS) :=
  if (σ.1 4304) = (40 : Int32) then
    FX4_prefixedFactor_18 rc p0 (55 : Int32) σ
  else
    FX4_prefixedFactor_18 rc p0 (σ.1 4304) σ
set_option maxRecDepth 100000 in
set_option maxHeartbeats 4000000 in
theorem kX4_prefixedFactor {l : Launch} {D : va_G} {cI cJ cQ : ClassId} {ad : Nat → Nat} {ra : Nat → Nat → Nat} {adK adV tK : Nat → Nat} {d : Nat} {rc : RCc} (hrc : SC4 l D cI cJ cQ ad ra adK adV tK d rc) {p0 : Int32} {σ σ' : CS} {r : Int32} (h : FX4_prefixedFactor rc p0 σ = some (r, σ')) : gMet l yX4_prefixedFactor qX4_prefixedFactor (rmSC4 (d + 1)) 0 0 D vwCl [(cI, .int), (cJ, .long), (cQ, .array .long)] (cKS adK adV tK) [.ref (ad 43), .int p0] (CW cI cJ cQ ad ra σ) (CW cI cJ cQ ad ra σ') (some (.int r)) := by
  refine gMet.of (cc := cX4_prefixedFactor) (maxL := 5) (ret := (some .int)) (by decide) rfl (Nat.le_of_ble_eq_true rfl) ?_
  intro p e s m args below meth c S hr hlk hnm hK hKS hA hB ls hl
  have hl : lv_has ls 5 [(0, .ref (ad 43)), (1, .int p0)] := hl
  replace S : CallFix p m c cX4_prefixedFactor 5 s args (_ :: wsL_law) RX4 := S
  rw [FX4_prefixedFactor] at h
  have P18 : ∀ (x1 : Int32) (y0 : Int32) (σ1 : CS) (H : Heap) (locs : List Loc) (ls : Array Slot), FX4_prefixedFactor_18 rc x1 y0 σ1 = some (r, σ') → gB D vwCl (va_A (CW cI cJ cQ ad ra σ) s.heap.size) s.heap (CW cI cJ cQ ad ra σ1) [] H locs → lv_has ls 5 [(0, .ref (ad 43)), (1, .int x1)] → W p l e (rmSC4 (d + 1)) s m args below meth c H locs 0 0 (MQ below (gQ D vwCl (CW cI cJ cQ ad ra σ) (CW cI cJ cQ ad ra σ') (some (.int r)) s.heap.size) args s 0 0 (va_A (CW cI cJ cQ ad ra σ) s.heap.size)) (F0 m 18 ls [.int y0]) := by
    intro  x1 y0 σ1 H locs ls h hB hl
    rw [FX4_prefixedFactor_18] at h
    refine lv_istore_n (lv' := [(2, .int y0), (0, .ref (ad 43)), (1, .int x1)]) S.1 S.2.1 dX4_prefixedFactor_18 rfl hl (by decide) rfl (fun ls hl => ?_)
    refine lv_aload_n S.1 S.2.1 dX4_prefixedFactor_19 rfl (lv_at hl 1 rfl) ?_
    refine tg_43_5 S hK hB (S.2.2.2.2 _ (List.mem_cons_of_mem _ wf_X4_53)) rfl dX4_prefixedFactor_20 ?_
    refine lv_istore_n (lv' := [(3, .int (σ1.1 4305)), (2, .int y0), (0, .ref (ad 43)), (1, .int x1)]) S.1 S.2.1 dX4_prefixedFactor_23 rfl hl (by decide) rfl (fun ls hl => ?_)
    refine lv_aload_n S.1 S.2.1 dX4_prefixedFactor_24 rfl (lv_at hl 2 rfl) ?_
    refine lv_iload_n S.1 S.2.1 dX4_prefixedFactor_25 rfl (lv_at hl 3 rfl) ?_
    obtain ⟨_, σ_2, e_2, h⟩ := b2s h
    refine cCallV S hK cKSc hKS hA (kX4_deepen e_2) (cwX4_183 S.2.2.2.2 (rm := rmX4_deepen) rfl rfl ⟨by dsimp only [rmSC4, rmX4_deepen]; omega, by dsimp only [rmSC4, rmX4_deepen]; omega⟩) hB 43 rfl rfl rfl hl.1 rfl (lv_room (Nat.le_of_ble_eq_true rfl)) dX4_prefixedFactor_26 ⟨Nat.zero_le _, Nat.zero_le _⟩ (fun H locs hB => ?_)
    refine lv_aload_n S.1 S.2.1 dX4_prefixedFactor_29 rfl (lv_at hl 2 rfl) ?_
    refine lv_iload_n S.1 S.2.1 dX4_prefixedFactor_30 rfl (lv_at hl 3 rfl) ?_
    refine lv_iconst (v := (1 : Int32)) S.1 S.2.1 dX4_prefixedFactor_31 (by decide) ?_
    refine lv_iadd S.1 S.2.1 dX4_prefixedFactor_32 ?_
    obtain ⟨r_3, σ_3, e_3, h⟩ := b2s h
    refine cCallI S hK cKSc hKS hA (hrc.2.2.2.2.2.2.2.2.2.2.1 e_3) (cwX4_195 S.2.2.2.2 (rm := (rmSC4 d)) rfl rfl ⟨by dsimp only [rmSC4]; omega, by dsimp only [rmSC4]; omega⟩) hB 43 rfl rfl rfl hl.1 rfl (lv_room (Nat.le_of_ble_eq_true rfl)) dX4_prefixedFactor_33 ⟨Nat.zero_le _, Nat.zero_le _⟩ (fun H locs hB => ?_)
    refine lv_istore (lv' := [(4, .int r_3), (3, .int (σ1.1 4305)), (2, .int y0), (0, .ref (ad 43)), (1, .int x1)]) S.1 S.2.1 dX4_prefixedFactor_36 hl (by decide) rfl (fun ls hl => ?_)
    refine lv_aload_n S.1 S.2.1 dX4_prefixedFactor_38 rfl (lv_at hl 3 rfl) ?_
    refine tg_43_1 S hK hB (S.2.2.2.2 _ (List.mem_cons_of_mem _ wf_X4_15)) dX4_prefixedFactor_39 ?_
    refine lv_iload_n S.1 S.2.1 dX4_prefixedFactor_42 rfl (lv_at hl 2 rfl) ?_
    refine lv_iload_n S.1 S.2.1 dX4_prefixedFactor_43 rfl (lv_at hl 1 rfl) ?_
    refine lv_iload S.1 S.2.1 dX4_prefixedFactor_44 (lv_at hl 0 rfl) ?_
    refine lv_iconst (v := (-1 : Int32)) S.1 S.2.1 dX4_prefixedFactor_46 (by decide) ?_
    obtain ⟨r_4, σ_4, e_4, h⟩ := b2s h
    refine cCallI S hK cKSc hKS hA (kX3_add e_4) (cwX4_149 S.2.2.2.2 (rm := rmX3_add) rfl rfl ⟨by dsimp only [rmSC4, rmX3_add]; omega, by dsimp only [rmSC4, rmX3_add]; omega⟩) hB 13 rfl rfl rfl hl.1 rfl (lv_room (Nat.le_of_ble_eq_true rfl)) dX4_prefixedFactor_47 ⟨Nat.zero_le _, Nat.zero_le _⟩ (fun H locs hB => ?_)
    cases h
    exact gRetI S.1 S.2.1 hr hlk hB dX4_prefixedFactor_50
  refine lv_aload_n S.1 S.2.1 dX4_prefixedFactor_0 rfl (lv_at hl 0 rfl) ?_
  refine tg_43_4 S hK hB (S.2.2.2.2 _ (List.mem_cons_of_mem _ wf_X4_34)) rfl dX4_prefixedFactor_1 ?_
  refine lv_bipush (v := (40 : Int32)) S.1 S.2.1 dX4_prefixedFactor_4 (by decide) ?_
  refine lv_icmp_ne (tgt := 14) S.1 S.2.1 dX4_prefixedFactor_6 (by decide) (fun c_1 => ?_) (fun c_1 => ?_)
  · replace h := (if_neg c_1).symm.trans h
    refine lv_aload_n S.1 S.2.1 dX4_prefixedFactor_14 rfl (lv_at hl 0 rfl) ?_
    refine tg_43_4 S hK hB (S.2.2.2.2 _ (List.mem_cons_of_mem _ wf_X4_34)) rfl dX4_prefixedFactor_15 ?_
    exact P18  _ _ _ _ _ _ h hB hl
  · replace h := (if_pos c_1).symm.trans h
    refine lv_bipush (v := (55 : Int32)) S.1 S.2.1 dX4_prefixedFactor_9 (by decide) ?_
    refine lv_goto (tgt := 18) S.1 S.2.1 dX4_prefixedFactor_11 (by decide) ?_
    exact P18  _ _ _ _ _ _ h hB hl
def FX4_factorOfFormula_78 (rc : RCc)  (x2 : Int32) (x3 : Int32) (x4 : Int32) (x5 : Int32) (x6 : Int32) (σ1 : CS) : Option (Int32 × CS) :=
    b2 (FX3_add x2 x3 x4 x5 σ1) fun r_5 σ_5 =>
    some (r_5, (tA σ_5 23 (putI 1200 (σ_5.2.2.1 23) r_5 x6)))
def FX4_factorOfFormula_42 (rc : RCc)  (x1 : Int32) (x2 : Int32) (x3 : Int32) (x4 : Int32) (x5 : Int32) (x6 : Int32) (σ1 : CS) : Option (Int32 × CS) :=
    if x2 = (18 : Int32) then
      b2 (FX4_expect (19 : Int32) σ1) fun (_ : Unit) σ_6 =>
      b2 (rc 10 (x1 + (1 : Int32)) σ_6) fun r_7 σ_7 =>
      b2 (FX4_expect (20 : Int32) σ_7) fun (_ : Unit) σ_8 =>
      b2 (rc 10 (x1 + (1 : Int32)) σ_8) fun r_9 σ_9 =>
      FX4_factorOfFormula_78 rc x2 x3 x4 r_7 r_9 σ_9
    else
      FX4_factorOfFormula_78 rc x2 x3 x4 x5 x6 σ1
def FX4_factorOfFormula (rc : RCc) (p0 : Int32) (σ : CS) : Option (Int32 × CS) :=
  b2 (FX4_advance σ) fun (_ : Unit) σ_1 =>
  b2 (rc 6 p0 σ_1) fun r_2 σ_2 =>
  if (σ.1 4304) = (26 : Int32) then
    b2 (rc 10 (p0 + (1 : Int32)) σ_2) fun r_10 σ_10 =>
    FX4_factorOfFormula_42 rc p0 (σ.1 4304) (σ.1 4305) r_2 r_10 (-1 : Int32) σ_10
  else
    FX4_factorOfFormula_42 rc p0 (σ.1 4304) (σ.1 4305) r_2 (-1 : Int32) (-1 : Int32) σ_2
set_option maxRecDepth 100000 in
set_option maxHeartbeats 4000000 in
theorem kX4_factorOfFormula {l : Launch} {D : va_G} {cI cJ cQ : ClassId} {ad : Nat → Nat} {ra : Nat → Nat → Nat} {adK adV tK : Nat → Nat} {d : Nat} {rc : RCc} (hrc : SC4 l D cI cJ cQ ad ra adK adV tK d rc) {p0 : Int32} {σ σ' : CS} {r : Int32} (h : FX4_factorOfFormula rc p0 σ = some (r, σ')) : gMet l yX4_factorOfFormula qX4_factorOfFormula (rmSC4 (d + 1)) 0 0 D vwCl [(cI, .int), (cJ, .long), (cQ, .array .long)] (cKS adK adV tK) [.ref (ad 43), .int p0] (CW cI cJ cQ ad ra σ) (CW cI cJ cQ ad ra σ') (some (.int r)) := by
  refine gMet.of (cc := cX4_factorOfFormula) (maxL := 8) (ret := (some .int)) (by decide) rfl (Nat.le_of_ble_eq_true rfl) ?_
  intro p e s m args below meth c S hr hlk hnm hK hKS hA hB ls hl
  have hl : lv_has ls 8 [(0, .ref (ad 43)), (1, .int p0)] := hl
  replace S : CallFix p m c cX4_factorOfFormula 8 s args (_ :: wsL_law) RX4 := S
  rw [FX4_factorOfFormula] at h
  have P78 : ∀ (x2 : Int32) (x3 : Int32) (x4 : Int32) (x5 : Int32) (x6 : Int32) (σ1 : CS) (H : Heap) (locs : List Loc) (ls : Array Slot), FX4_factorOfFormula_78 rc x2 x3 x4 x5 x6 σ1 = some (r, σ') → gB D vwCl (va_A (CW cI cJ cQ ad ra σ) s.heap.size) s.heap (CW cI cJ cQ ad ra σ1) [] H locs → lv_has ls 8 [(0, .ref (ad 43)), (2, .int x2), (3, .int x3), (4, .int x4), (5, .int x5), (6, .int x6)] → W p l e (rmSC4 (d + 1)) s m args below meth c H locs 0 0 (MQ below (gQ D vwCl (CW cI cJ cQ ad ra σ) (CW cI cJ cQ ad ra σ') (some (.int r)) s.heap.size) args s 0 0 (va_A (CW cI cJ cQ ad ra σ) s.heap.size)) (F0 m 78 ls []) := by
    intro  x2 x3 x4 x5 x6 σ1 H locs ls h hB hl
    rw [FX4_factorOfFormula_78] at h
    refine lv_aload_n S.1 S.2.1 dX4_factorOfFormula_78 rfl (lv_at hl 0 rfl) ?_
    refine tg_43_1 S hK hB (S.2.2.2.2 _ (List.mem_cons_of_mem _ wf_X4_15)) dX4_factorOfFormula_79 ?_
    refine lv_iload_n S.1 S.2.1 dX4_factorOfFormula_82 rfl (lv_at hl 1 rfl) ?_
    refine lv_iload_n S.1 S.2.1 dX4_factorOfFormula_83 rfl (lv_at hl 2 rfl) ?_
    refine lv_iload S.1 S.2.1 dX4_factorOfFormula_84 (lv_at hl 3 rfl) ?_
    refine lv_iload S.1 S.2.1 dX4_factorOfFormula_86 (lv_at hl 4 rfl) ?_
    obtain ⟨r_5, σ_5, e_5, h⟩ := b2s h
    refine cCallI S hK cKSc hKS hA (kX3_add e_5) (cwX4_149 S.2.2.2.2 (rm := rmX3_add) rfl rfl ⟨by dsimp only [rmSC4, rmX3_add]; omega, by dsimp only [rmSC4, rmX3_add]; omega⟩) hB 13 rfl rfl rfl hl.1 rfl (lv_room (Nat.le_of_ble_eq_true rfl)) dX4_factorOfFormula_88 ⟨Nat.zero_le _, Nat.zero_le _⟩ (fun H locs hB => ?_)
    refine lv_istore (lv' := [(7, .int r_5), (0, .ref (ad 43)), (2, .int x2), (3, .int x3), (4, .int x4), (5, .int x5), (6, .int x6)]) S.1 S.2.1 dX4_factorOfFormula_91 hl (by decide) rfl (fun ls hl => ?_)
    refine lv_aload_n S.1 S.2.1 dX4_factorOfFormula_93 rfl (lv_at hl 1 rfl) ?_
    refine tg_43_1 S hK hB (S.2.2.2.2 _ (List.mem_cons_of_mem _ wf_X4_15)) dX4_factorOfFormula_94 ?_
    refine tgN_13_4 S hK hB (nF hKS 10 rfl) dX4_factorOfFormula_97 ?_
    refine lv_iload S.1 S.2.1 dX4_factorOfFormula_100 (lv_at hl 0 rfl) ?_
    refine lv_iload S.1 S.2.1 dX4_factorOfFormula_102 (lv_at hl 6 rfl) ?_
    refine lp_22 S hK cKSc hKS hA hB (cwX4_137 S.2.2.2.2 (rm := { frames := 0, cells := 0, slots := 0, locals := 0 }) rfl rfl ⟨by dsimp only [rmSC4]; omega, by dsimp only [rmSC4]; omega⟩) hl.1 (lv_room (Nat.le_of_ble_eq_true rfl)) dX4_factorOfFormula_104 ⟨Nat.zero_le _, Nat.zero_le _⟩ (fun H locs hB => ?_)
    refine lv_iload S.1 S.2.1 dX4_factorOfFormula_107 (lv_at hl 0 rfl) ?_
    cases h
    exact gRetI S.1 S.2.1 hr hlk hB dX4_factorOfFormula_109
  have P42 : ∀ (x1 : Int32) (x2 : Int32) (x3 : Int32) (x4 : Int32) (x5 : Int32) (x6 : Int32) (σ1 : CS) (H : Heap) (locs : List Loc) (ls : Array Slot), FX4_factorOfFormula_42 rc x1 x2 x3 x4 x5 x6 σ1 = some (r, σ') → gB D vwCl (va_A (CW cI cJ cQ ad ra σ) s.heap.size) s.heap (CW cI cJ cQ ad ra σ1) [] H locs → lv_has ls 8 [(0, .ref (ad 43)), (1, .int x1), (2, .int x2), (3, .int x3), (4, .int x4), (5, .int x5), (6, .int x6)] → W p l e (rmSC4 (d + 1)) s m args below meth c H locs 0 0 (MQ below (gQ D vwCl (CW cI cJ cQ ad ra σ) (CW cI cJ cQ ad ra σ') (some (.int r)) s.heap.size) args s 0 0 (va_A (CW cI cJ cQ ad ra σ) s.heap.size)) (F0 m 42 ls []) := by
    intro  x1 x2 x3 x4 x5 x6 σ1 H locs ls h hB hl
    rw [FX4_factorOfFormula_42] at h
    refine lv_iload_n S.1 S.2.1 dX4_factorOfFormula_42 rfl (lv_at hl 2 rfl) ?_
    refine lv_bipush (v := (18 : Int32)) S.1 S.2.1 dX4_factorOfFormula_43 (by decide) ?_
    refine lv_icmp_ne (tgt := 78) S.1 S.2.1 dX4_factorOfFormula_45 (by decide) (fun c_4 => ?_) (fun c_4 => ?_)
    · replace h := (if_neg c_4).symm.trans h
      exact P78  _ _ _ _ _ _ _ _ _ h hB (lv_sub hl [0, 2, 3, 4, 5, 6] rfl)
    · replace h := (if_pos c_4).symm.trans h
      refine lv_aload_n S.1 S.2.1 dX4_factorOfFormula_48 rfl (lv_at hl 0 rfl) ?_
      refine lv_bipush (v := (19 : Int32)) S.1 S.2.1 dX4_factorOfFormula_49 (by decide) ?_
      obtain ⟨_, σ_6, e_6, h⟩ := b2s h
      refine cCallV S hK cKSc hKS hA (kX4_expect e_6) (cwX4_106 S.2.2.2.2 (rm := rmX4_expect) rfl rfl ⟨by dsimp only [rmSC4, rmX4_expect]; omega, by dsimp only [rmSC4, rmX4_expect]; omega⟩) hB 43 rfl rfl rfl hl.1 rfl (lv_room (Nat.le_of_ble_eq_true rfl)) dX4_factorOfFormula_51 ⟨Nat.zero_le _, Nat.zero_le _⟩ (fun H locs hB => ?_)
      refine lv_aload_n S.1 S.2.1 dX4_factorOfFormula_54 rfl (lv_at hl 0 rfl) ?_
      refine lv_iload_n S.1 S.2.1 dX4_factorOfFormula_55 rfl (lv_at hl 1 rfl) ?_
      refine lv_iconst (v := (1 : Int32)) S.1 S.2.1 dX4_factorOfFormula_56 (by decide) ?_
      refine lv_iadd S.1 S.2.1 dX4_factorOfFormula_57 ?_
      obtain ⟨r_7, σ_7, e_7, h⟩ := b2s h
      refine cCallI S hK cKSc hKS hA (hrc.2.2.2.2.2.2.2.2.2.2.1 e_7) (cwX4_195 S.2.2.2.2 (rm := (rmSC4 d)) rfl rfl ⟨by dsimp only [rmSC4]; omega, by dsimp only [rmSC4]; omega⟩) hB 43 rfl rfl rfl hl.1 rfl (lv_room (Nat.le_of_ble_eq_true rfl)) dX4_factorOfFormula_58 ⟨Nat.zero_le _, Nat.zero_le _⟩ (fun H locs hB => ?_)
      refine lv_istore (lv' := [(5, .int r_7), (0, .ref (ad 43)), (1, .int x1), (2, .int x2), (3, .int x3), (4, .int x4), (6, .int x6)]) S.1 S.2.1 dX4_factorOfFormula_61 hl (by decide) rfl (fun ls hl => ?_)
      refine lv_aload_n S.1 S.2.1 dX4_factorOfFormula_63 rfl (lv_at hl 1 rfl) ?_
      refine lv_bipush (v := (20 : Int32)) S.1 S.2.1 dX4_factorOfFormula_64 (by decide) ?_
      obtain ⟨_, σ_8, e_8, h⟩ := b2s h
      refine cCallV S hK cKSc hKS hA (kX4_expect e_8) (cwX4_106 S.2.2.2.2 (rm := rmX4_expect) rfl rfl ⟨by dsimp only [rmSC4, rmX4_expect]; omega, by dsimp only [rmSC4, rmX4_expect]; omega⟩) hB 43 rfl rfl rfl hl.1 rfl (lv_room (Nat.le_of_ble_eq_true rfl)) dX4_factorOfFormula_66 ⟨Nat.zero_le _, Nat.zero_le _⟩ (fun H locs hB => ?_)
      refine lv_aload_n S.1 S.2.1 dX4_factorOfFormula_69 rfl (lv_at hl 1 rfl) ?_
      refine lv_iload_n S.1 S.2.1 dX4_factorOfFormula_70 rfl (lv_at hl 2 rfl) ?_
      refine lv_iconst (v := (1 : Int32)) S.1 S.2.1 dX4_factorOfFormula_71 (by decide) ?_
      refine lv_iadd S.1 S.2.1 dX4_factorOfFormula_72 ?_
      obtain ⟨r_9, σ_9, e_9, h⟩ := b2s h
      refine cCallI S hK cKSc hKS hA (hrc.2.2.2.2.2.2.2.2.2.2.1 e_9) (cwX4_195 S.2.2.2.2 (rm := (rmSC4 d)) rfl rfl ⟨by dsimp only [rmSC4]; omega, by dsimp only [rmSC4]; omega⟩) hB 43 rfl rfl rfl hl.1 rfl (lv_room (Nat.le_of_ble_eq_true rfl)) dX4_factorOfFormula_73 ⟨Nat.zero_le _, Nat.zero_le _⟩ (fun H locs hB => ?_)
      refine lv_istore (lv' := [(6, .int r_9), (5, .int r_7), (0, .ref (ad 43)), (1, .int x1), (2, .int x2), (3, .int x3), (4, .int x4)]) S.1 S.2.1 dX4_factorOfFormula_76 hl (by decide) rfl (fun ls hl => ?_)
      exact P78  _ _ _ _ _ _ _ _ _ h hB (lv_sub hl [2, 4, 5, 6, 1, 0] rfl)
  refine lv_aload_n S.1 S.2.1 dX4_factorOfFormula_0 rfl (lv_at hl 0 rfl) ?_
  refine tg_43_4 S hK hB (S.2.2.2.2 _ (List.mem_cons_of_mem _ wf_X4_34)) rfl dX4_factorOfFormula_1 ?_
  refine lv_istore_n (lv' := [(2, .int (σ.1 4304)), (0, .ref (ad 43)), (1, .int p0)]) S.1 S.2.1 dX4_factorOfFormula_4 rfl hl (by decide) rfl (fun ls hl => ?_)
  refine lv_aload_n S.1 S.2.1 dX4_factorOfFormula_5 rfl (lv_at hl 1 rfl) ?_
  refine tg_43_5 S hK hB (S.2.2.2.2 _ (List.mem_cons_of_mem _ wf_X4_53)) rfl dX4_factorOfFormula_6 ?_
  refine lv_istore_n (lv' := [(3, .int (σ.1 4305)), (2, .int (σ.1 4304)), (0, .ref (ad 43)), (1, .int p0)]) S.1 S.2.1 dX4_factorOfFormula_9 rfl hl (by decide) rfl (fun ls hl => ?_)
  refine lv_aload_n S.1 S.2.1 dX4_factorOfFormula_10 rfl (lv_at hl 2 rfl) ?_
  obtain ⟨_, σ_1, e_1, h⟩ := b2s h
  refine cCallV S hK cKSc hKS hA (kX4_advance e_1) (cwX4_75 S.2.2.2.2 (rm := rmX4_advance) rfl rfl ⟨by dsimp only [rmSC4, rmX4_advance]; omega, by dsimp only [rmSC4, rmX4_advance]; omega⟩) hB 43 rfl rfl rfl hl.1 rfl (lv_room (Nat.le_of_ble_eq_true rfl)) dX4_factorOfFormula_11 ⟨Nat.zero_le _, Nat.zero_le _⟩ (fun H locs hB => ?_)
  refine lv_aload_n S.1 S.2.1 dX4_factorOfFormula_14 rfl (lv_at hl 2 rfl) ?_
  refine lv_iload_n S.1 S.2.1 dX4_factorOfFormula_15 rfl (lv_at hl 3 rfl) ?_
  obtain ⟨r_2, σ_2, e_2, h⟩ := b2s h
  refine cCallI S hK cKSc hKS hA (hrc.2.2.2.2.2.2.1 e_2) (cwX4_171 S.2.2.2.2 (rm := (rmSC4 d)) rfl rfl ⟨by dsimp only [rmSC4]; omega, by dsimp only [rmSC4]; omega⟩) hB 43 rfl rfl rfl hl.1 rfl (lv_room (Nat.le_of_ble_eq_true rfl)) dX4_factorOfFormula_16 ⟨Nat.zero_le _, Nat.zero_le _⟩ (fun H locs hB => ?_)
  refine lv_istore (lv' := [(4, .int r_2), (3, .int (σ.1 4305)), (2, .int (σ.1 4304)), (0, .ref (ad 43)), (1, .int p0)]) S.1 S.2.1 dX4_factorOfFormula_19 hl (by decide) rfl (fun ls hl => ?_)
  refine lv_iconst (v := (-1 : Int32)) S.1 S.2.1 dX4_factorOfFormula_21 (by decide) ?_
  refine lv_istore (lv' := [(5, .int (-1 : Int32)), (4, .int r_2), (3, .int (σ.1 4305)), (2, .int (σ.1 4304)), (0, .ref (ad 43)), (1, .int p0)]) S.1 S.2.1 dX4_factorOfFormula_22 hl (by decide) rfl (fun ls hl => ?_)
  refine lv_iconst (v := (-1 : Int32)) S.1 S.2.1 dX4_factorOfFormula_24 (by decide) ?_
  refine lv_istore (lv' := [(6, .int (-1 : Int32)), (5, .int (-1 : Int32)), (4, .int r_2), (3, .int (σ.1 4305)), (2, .int (σ.1 4304)), (0, .ref (ad 43)), (1, .int p0)]) S.1 S.2.1 dX4_factorOfFormula_25 hl (by decide) rfl (fun ls hl => ?_)
  refine lv_iload_n S.1 S.2.1 dX4_factorOfFormula_27 rfl (lv_at hl 4 rfl) ?_
  refine lv_bipush (v := (26 : Int32)) S.1 S.2.1 dX4_factorOfFormula_28 (by decide) ?_
  refine lv_icmp_ne (tgt := 42) S.1 S.2.1 dX4_factorOfFormula_30 (by decide) (fun c_3 => ?_) (fun c_3 => ?_)
  · replace h := (if_neg c_3).symm.trans h
    exact P42  _ _ _ _ _ _ _ _ _ _ h hB (lv_sub hl [5, 6, 4, 3, 2, 1, 0] rfl)
  · replace h := (if_pos c_3).symm.trans h
    refine lv_aload_n S.1 S.2.1 dX4_factorOfFormula_33 rfl (lv_at hl 5 rfl) ?_
    refine lv_iload_n S.1 S.2.1 dX4_factorOfFormula_34 rfl (lv_at hl 6 rfl) ?_
    refine lv_iconst (v := (1 : Int32)) S.1 S.2.1 dX4_factorOfFormula_35 (by decide) ?_
    refine lv_iadd S.1 S.2.1 dX4_factorOfFormula_36 ?_
    obtain ⟨r_10, σ_10, e_10, h⟩ := b2s h
    refine cCallI S hK cKSc hKS hA (hrc.2.2.2.2.2.2.2.2.2.2.1 e_10) (cwX4_195 S.2.2.2.2 (rm := (rmSC4 d)) rfl rfl ⟨by dsimp only [rmSC4]; omega, by dsimp only [rmSC4]; omega⟩) hB 43 rfl rfl rfl hl.1 rfl (lv_room (Nat.le_of_ble_eq_true rfl)) dX4_factorOfFormula_37 ⟨Nat.zero_le _, Nat.zero_le _⟩ (fun H locs hB => ?_)
    refine lv_istore (lv' := [(5, .int r_10), (6, .int (-1 : Int32)), (4, .int r_2), (3, .int (σ.1 4305)), (2, .int (σ.1 4304)), (0, .ref (ad 43)), (1, .int p0)]) S.1 S.2.1 dX4_factorOfFormula_40 hl (by decide) rfl (fun ls hl => ?_)
    exact P42  _ _ _ _ _ _ _ _ _ _ h hB (lv_sub hl [5, 6, 4, 3, 2, 0, 1] rfl)
def FSC4 (L : Nat) : Nat → RCc
  | 0 => fun _ _ _ => none
  | d+1 => fun k a σ => if k = 0 then FX4_formula (FSC4 L d) L a σ else if k = 1 then FX4_either (FSC4 L d) L a σ else if k = 2 then FX4_both (FSC4 L d) L a σ else if k = 3 then FX4_since (FSC4 L d) a σ else if k = 4 then FX4_one (FSC4 L d) L a σ else if k = 5 then FX4_prefixed (FSC4 L d) a σ else if k = 6 then FX4_braced (FSC4 L d) a σ else if k = 7 then FX4_compare (FSC4 L d) a σ else if k = 8 then FX4_expression (FSC4 L d) L a σ else if k = 9 then FX4_product (FSC4 L d) L a σ else if k = 10 then FX4_factor (FSC4 L d) L a σ else if k = 11 then FX4_bracketed (FSC4 L d) a σ else if k = 12 then FX4_prefixedFactor (FSC4 L d) a σ else if k = 13 then FX4_factorOfFormula (FSC4 L d) a σ else none
theorem FSC4_0 {L d : Nat} {a : Int32} {σ : CS} : FSC4 L (d + 1) 0 a σ = FX4_formula (FSC4 L d) L a σ := rfl
theorem FSC4_1 {L d : Nat} {a : Int32} {σ : CS} : FSC4 L (d + 1) 1 a σ = FX4_either (FSC4 L d) L a σ := rfl
theorem FSC4_2 {L d : Nat} {a : Int32} {σ : CS} : FSC4 L (d + 1) 2 a σ = FX4_both (FSC4 L d) L a σ := rfl
theorem FSC4_3 {L d : Nat} {a : Int32} {σ : CS} : FSC4 L (d + 1) 3 a σ = FX4_since (FSC4 L d) a σ := rfl
theorem FSC4_4 {L d : Nat} {a : Int32} {σ : CS} : FSC4 L (d + 1) 4 a σ = FX4_one (FSC4 L d) L a σ := rfl
theorem FSC4_5 {L d : Nat} {a : Int32} {σ : CS} : FSC4 L (d + 1) 5 a σ = FX4_prefixed (FSC4 L d) a σ := rfl
theorem FSC4_6 {L d : Nat} {a : Int32} {σ : CS} : FSC4 L (d + 1) 6 a σ = FX4_braced (FSC4 L d) a σ := rfl
theorem FSC4_7 {L d : Nat} {a : Int32} {σ : CS} : FSC4 L (d + 1) 7 a σ = FX4_compare (FSC4 L d) a σ := rfl
theorem FSC4_8 {L d : Nat} {a : Int32} {σ : CS} : FSC4 L (d + 1) 8 a σ = FX4_expression (FSC4 L d) L a σ := rfl
theorem FSC4_9 {L d : Nat} {a : Int32} {σ : CS} : FSC4 L (d + 1) 9 a σ = FX4_product (FSC4 L d) L a σ := rfl
theorem FSC4_10 {L d : Nat} {a : Int32} {σ : CS} : FSC4 L (d + 1) 10 a σ = FX4_factor (FSC4 L d) L a σ := rfl
theorem FSC4_11 {L d : Nat} {a : Int32} {σ : CS} : FSC4 L (d + 1) 11 a σ = FX4_bracketed (FSC4 L d) a σ := rfl
theorem FSC4_12 {L d : Nat} {a : Int32} {σ : CS} : FSC4 L (d + 1) 12 a σ = FX4_prefixedFactor (FSC4 L d) a σ := rfl
theorem FSC4_13 {L d : Nat} {a : Int32} {σ : CS} : FSC4 L (d + 1) 13 a σ = FX4_factorOfFormula (FSC4 L d) a σ := rfl
theorem SC4_all {l : Launch} {D : va_G} {cI cJ cQ : ClassId} {ad : Nat → Nat} {ra : Nat → Nat → Nat} {adK adV tK : Nat → Nat} (L : Nat) : ∀ d : Nat, SC4 l D cI cJ cQ ad ra adK adV tK d (FSC4 L d) := by
  intro d
  induction d with
  | zero => exact ⟨(fun h => by cases h), (fun h => by cases h), (fun h => by cases h), (fun h => by cases h), (fun h => by cases h), (fun h => by cases h), (fun h => by cases h), (fun h => by cases h), (fun h => by cases h), (fun h => by cases h), (fun h => by cases h), (fun h => by cases h), (fun h => by cases h), (fun h => by cases h)⟩
  | succ d ih => exact ⟨fun h => kX4_formula ih (FSC4_0.symm.trans h), fun h => kX4_either ih (FSC4_1.symm.trans h), fun h => kX4_both ih (FSC4_2.symm.trans h), fun h => kX4_since ih (FSC4_3.symm.trans h), fun h => kX4_one ih (FSC4_4.symm.trans h), fun h => kX4_prefixed ih (FSC4_5.symm.trans h), fun h => kX4_braced ih (FSC4_6.symm.trans h), fun h => kX4_compare ih (FSC4_7.symm.trans h), fun h => kX4_expression ih (FSC4_8.symm.trans h), fun h => kX4_product ih (FSC4_9.symm.trans h), fun h => kX4_factor ih (FSC4_10.symm.trans h), fun h => kX4_bracketed ih (FSC4_11.symm.trans h), fun h => kX4_prefixedFactor ih (FSC4_12.symm.trans h), fun h => kX4_factorOfFormula ih (FSC4_13.symm.trans h)⟩
def dSC4 : Nat := 200
abbrev rtSC4 : Room := { frames := 220, cells := 0, slots := 0, locals := 8400 }
theorem tSC4_X4_formula {l : Launch} {D : va_G} {cI cJ cQ : ClassId} {ad : Nat → Nat} {ra : Nat → Nat → Nat} {adK adV tK : Nat → Nat} {L : Nat} {a : Int32} {σ σ' : CS} {r : Int32} (h : FSC4 L dSC4 0 a σ = some (r, σ')) : gMet l yX4_formula qX4_formula rtSC4 0 0 D vwCl [(cI, .int), (cJ, .long), (cQ, .array .long)] (cKS adK adV tK) [.ref (ad 43), .int a] (CW cI cJ cQ ad ra σ) (CW cI cJ cQ ad ra σ') (some (.int r)) := by
  have hrc : SC4 l D cI cJ cQ ad ra adK adV tK dSC4 (FSC4 L dSC4) := SC4_all L dSC4
  exact hrc.1 h
theorem tSC4_X4_either {l : Launch} {D : va_G} {cI cJ cQ : ClassId} {ad : Nat → Nat} {ra : Nat → Nat → Nat} {adK adV tK : Nat → Nat} {L : Nat} {a : Int32} {σ σ' : CS} {r : Int32} (h : FSC4 L dSC4 1 a σ = some (r, σ')) : gMet l yX4_either qX4_either rtSC4 0 0 D vwCl [(cI, .int), (cJ, .long), (cQ, .array .long)] (cKS adK adV tK) [.ref (ad 43), .int a] (CW cI cJ cQ ad ra σ) (CW cI cJ cQ ad ra σ') (some (.int r)) := by
  have hrc : SC4 l D cI cJ cQ ad ra adK adV tK dSC4 (FSC4 L dSC4) := SC4_all L dSC4
  exact hrc.2.1 h
theorem tSC4_X4_both {l : Launch} {D : va_G} {cI cJ cQ : ClassId} {ad : Nat → Nat} {ra : Nat → Nat → Nat} {adK adV tK : Nat → Nat} {L : Nat} {a : Int32} {σ σ' : CS} {r : Int32} (h : FSC4 L dSC4 2 a σ = some (r, σ')) : gMet l yX4_both qX4_both rtSC4 0 0 D vwCl [(cI, .int), (cJ, .long), (cQ, .array .long)] (cKS adK adV tK) [.ref (ad 43), .int a] (CW cI cJ cQ ad ra σ) (CW cI cJ cQ ad ra σ') (some (.int r)) := by
  have hrc : SC4 l D cI cJ cQ ad ra adK adV tK dSC4 (FSC4 L dSC4) := SC4_all L dSC4
  exact hrc.2.2.1 h
theorem tSC4_X4_since {l : Launch} {D : va_G} {cI cJ cQ : ClassId} {ad : Nat → Nat} {ra : Nat → Nat → Nat} {adK adV tK : Nat → Nat} {L : Nat} {a : Int32} {σ σ' : CS} {r : Int32} (h : FSC4 L dSC4 3 a σ = some (r, σ')) : gMet l yX4_since qX4_since rtSC4 0 0 D vwCl [(cI, .int), (cJ, .long), (cQ, .array .long)] (cKS adK adV tK) [.ref (ad 43), .int a] (CW cI cJ cQ ad ra σ) (CW cI cJ cQ ad ra σ') (some (.int r)) := by
  have hrc : SC4 l D cI cJ cQ ad ra adK adV tK dSC4 (FSC4 L dSC4) := SC4_all L dSC4
  exact hrc.2.2.2.1 h
theorem tSC4_X4_one {l : Launch} {D : va_G} {cI cJ cQ : ClassId} {ad : Nat → Nat} {ra : Nat → Nat → Nat} {adK adV tK : Nat → Nat} {L : Nat} {a : Int32} {σ σ' : CS} {r : Int32} (h : FSC4 L dSC4 4 a σ = some (r, σ')) : gMet l yX4_one qX4_one rtSC4 0 0 D vwCl [(cI, .int), (cJ, .long), (cQ, .array .long)] (cKS adK adV tK) [.ref (ad 43), .int a] (CW cI cJ cQ ad ra σ) (CW cI cJ cQ ad ra σ') (some (.int r)) := by
  have hrc : SC4 l D cI cJ cQ ad ra adK adV tK dSC4 (FSC4 L dSC4) := SC4_all L dSC4
  exact hrc.2.2.2.2.1 h
theorem tSC4_X4_prefixed {l : Launch} {D : va_G} {cI cJ cQ : ClassId} {ad : Nat → Nat} {ra : Nat → Nat → Nat} {adK adV tK : Nat → Nat} {L : Nat} {a : Int32} {σ σ' : CS} {r : Int32} (h : FSC4 L dSC4 5 a σ = some (r, σ')) : gMet l yX4_prefixed qX4_prefixed rtSC4 0 0 D vwCl [(cI, .int), (cJ, .long), (cQ, .array .long)] (cKS adK adV tK) [.ref (ad 43), .int a] (CW cI cJ cQ ad ra σ) (CW cI cJ cQ ad ra σ') (some (.int r)) := by
  have hrc : SC4 l D cI cJ cQ ad ra adK adV tK dSC4 (FSC4 L dSC4) := SC4_all L dSC4
  exact hrc.2.2.2.2.2.1 h
theorem tSC4_X4_braced {l : Launch} {D : va_G} {cI cJ cQ : ClassId} {ad : Nat → Nat} {ra : Nat → Nat → Nat} {adK adV tK : Nat → Nat} {L : Nat} {a : Int32} {σ σ' : CS} {r : Int32} (h : FSC4 L dSC4 6 a σ = some (r, σ')) : gMet l yX4_braced qX4_braced rtSC4 0 0 D vwCl [(cI, .int), (cJ, .long), (cQ, .array .long)] (cKS adK adV tK) [.ref (ad 43), .int a] (CW cI cJ cQ ad ra σ) (CW cI cJ cQ ad ra σ') (some (.int r)) := by
  have hrc : SC4 l D cI cJ cQ ad ra adK adV tK dSC4 (FSC4 L dSC4) := SC4_all L dSC4
  exact hrc.2.2.2.2.2.2.1 h
theorem tSC4_X4_compare {l : Launch} {D : va_G} {cI cJ cQ : ClassId} {ad : Nat → Nat} {ra : Nat → Nat → Nat} {adK adV tK : Nat → Nat} {L : Nat} {a : Int32} {σ σ' : CS} {r : Int32} (h : FSC4 L dSC4 7 a σ = some (r, σ')) : gMet l yX4_compare qX4_compare rtSC4 0 0 D vwCl [(cI, .int), (cJ, .long), (cQ, .array .long)] (cKS adK adV tK) [.ref (ad 43), .int a] (CW cI cJ cQ ad ra σ) (CW cI cJ cQ ad ra σ') (some (.int r)) := by
  have hrc : SC4 l D cI cJ cQ ad ra adK adV tK dSC4 (FSC4 L dSC4) := SC4_all L dSC4
  exact hrc.2.2.2.2.2.2.2.1 h
theorem tSC4_X4_expression {l : Launch} {D : va_G} {cI cJ cQ : ClassId} {ad : Nat → Nat} {ra : Nat → Nat → Nat} {adK adV tK : Nat → Nat} {L : Nat} {a : Int32} {σ σ' : CS} {r : Int32} (h : FSC4 L dSC4 8 a σ = some (r, σ')) : gMet l yX4_expression qX4_expression rtSC4 0 0 D vwCl [(cI, .int), (cJ, .long), (cQ, .array .long)] (cKS adK adV tK) [.ref (ad 43), .int a] (CW cI cJ cQ ad ra σ) (CW cI cJ cQ ad ra σ') (some (.int r)) := by
  have hrc : SC4 l D cI cJ cQ ad ra adK adV tK dSC4 (FSC4 L dSC4) := SC4_all L dSC4
  exact hrc.2.2.2.2.2.2.2.2.1 h
theorem tSC4_X4_product {l : Launch} {D : va_G} {cI cJ cQ : ClassId} {ad : Nat → Nat} {ra : Nat → Nat → Nat} {adK adV tK : Nat → Nat} {L : Nat} {a : Int32} {σ σ' : CS} {r : Int32} (h : FSC4 L dSC4 9 a σ = some (r, σ')) : gMet l yX4_product qX4_product rtSC4 0 0 D vwCl [(cI, .int), (cJ, .long), (cQ, .array .long)] (cKS adK adV tK) [.ref (ad 43), .int a] (CW cI cJ cQ ad ra σ) (CW cI cJ cQ ad ra σ') (some (.int r)) := by
  have hrc : SC4 l D cI cJ cQ ad ra adK adV tK dSC4 (FSC4 L dSC4) := SC4_all L dSC4
  exact hrc.2.2.2.2.2.2.2.2.2.1 h
theorem tSC4_X4_factor {l : Launch} {D : va_G} {cI cJ cQ : ClassId} {ad : Nat → Nat} {ra : Nat → Nat → Nat} {adK adV tK : Nat → Nat} {L : Nat} {a : Int32} {σ σ' : CS} {r : Int32} (h : FSC4 L dSC4 10 a σ = some (r, σ')) : gMet l yX4_factor qX4_factor rtSC4 0 0 D vwCl [(cI, .int), (cJ, .long), (cQ, .array .long)] (cKS adK adV tK) [.ref (ad 43), .int a] (CW cI cJ cQ ad ra σ) (CW cI cJ cQ ad ra σ') (some (.int r)) := by
  have hrc : SC4 l D cI cJ cQ ad ra adK adV tK dSC4 (FSC4 L dSC4) := SC4_all L dSC4
  exact hrc.2.2.2.2.2.2.2.2.2.2.1 h
theorem tSC4_X4_bracketed {l : Launch} {D : va_G} {cI cJ cQ : ClassId} {ad : Nat → Nat} {ra : Nat → Nat → Nat} {adK adV tK : Nat → Nat} {L : Nat} {a : Int32} {σ σ' : CS} {r : Int32} (h : FSC4 L dSC4 11 a σ = some (r, σ')) : gMet l yX4_bracketed qX4_bracketed rtSC4 0 0 D vwCl [(cI, .int), (cJ, .long), (cQ, .array .long)] (cKS adK adV tK) [.ref (ad 43), .int a] (CW cI cJ cQ ad ra σ) (CW cI cJ cQ ad ra σ') (some (.int r)) := by
  have hrc : SC4 l D cI cJ cQ ad ra adK adV tK dSC4 (FSC4 L dSC4) := SC4_all L dSC4
  exact hrc.2.2.2.2.2.2.2.2.2.2.2.1 h
theorem tSC4_X4_prefixedFactor {l : Launch} {D : va_G} {cI cJ cQ : ClassId} {ad : Nat → Nat} {ra : Nat → Nat → Nat} {adK adV tK : Nat → Nat} {L : Nat} {a : Int32} {σ σ' : CS} {r : Int32} (h : FSC4 L dSC4 12 a σ = some (r, σ')) : gMet l yX4_prefixedFactor qX4_prefixedFactor rtSC4 0 0 D vwCl [(cI, .int), (cJ, .long), (cQ, .array .long)] (cKS adK adV tK) [.ref (ad 43), .int a] (CW cI cJ cQ ad ra σ) (CW cI cJ cQ ad ra σ') (some (.int r)) := by
  have hrc : SC4 l D cI cJ cQ ad ra adK adV tK dSC4 (FSC4 L dSC4) := SC4_all L dSC4
  exact hrc.2.2.2.2.2.2.2.2.2.2.2.2.1 h
theorem tSC4_X4_factorOfFormula {l : Launch} {D : va_G} {cI cJ cQ : ClassId} {ad : Nat → Nat} {ra : Nat → Nat → Nat} {adK adV tK : Nat → Nat} {L : Nat} {a : Int32} {σ σ' : CS} {r : Int32} (h : FSC4 L dSC4 13 a σ = some (r, σ')) : gMet l yX4_factorOfFormula qX4_factorOfFormula rtSC4 0 0 D vwCl [(cI, .int), (cJ, .long), (cQ, .array .long)] (cKS adK adV tK) [.ref (ad 43), .int a] (CW cI cJ cQ ad ra σ) (CW cI cJ cQ ad ra σ') (some (.int r)) := by
  have hrc : SC4 l D cI cJ cQ ad ra adK adV tK dSC4 (FSC4 L dSC4) := SC4_all L dSC4
  exact hrc.2.2.2.2.2.2.2.2.2.2.2.2.2 h
def FX4_readItem_118 (L : Nat)  (x1 : Int32) (x2 : Int64) (x4 : Int32) (σ1 : CS) : Option (Unit × CS) :=
    b2 (FX4_expect (36 : Int32) σ1) fun (_ : Unit) σ_15 =>
    if (σ_15.1 4307) = 0 then
      b2 (FX5_add x2 x1 x4 σ_15) fun (_ : Unit) σ_17 =>
      some ((), σ_17)
    else
      some ((), σ_15)
def FX4_readItem_107 (L : Nat)  (x1 : Int32) (x2 : Int64) (y0 : Int32) (σ1 : CS) : Option (Unit × CS) :=
    if x1 = (3 : Int32) then
      b2 (FX4_readLevel σ1) fun (_ : Unit) σ_18 =>
      FX4_readItem_118 L x1 x2 y0 σ_18
    else
      FX4_readItem_118 L x1 x2 y0 σ1
def FX4_readItem_75 (L : Nat)  (x1 : Int32) (x2 : Int64) (y1 : Int32) (σ1 : CS) : Option (Unit × CS) :=
    b2 (FX4_expect y1 σ1) fun (_ : Unit) σ_10 =>
    if x1 = 0 then
      b2 (FX4_readFirstValue σ_10) fun r_20 σ_20 =>
      FX4_readItem_107 L x1 x2 r_20 σ_20
    else
      if x1 = (2 : Int32) then
        b2 (FSC4 L dSC4 8 (0 : Int32) σ_10) fun r_19 σ_19 =>
        FX4_readItem_107 L x1 x2 r_19 σ_19
      else
        b2 (FSC4 L dSC4 0 (0 : Int32) σ_10) fun r_13 σ_13 =>
        FX4_readItem_107 L x1 x2 r_13 σ_13
def FX4_readItem_39 (L : Nat)  (x1 : Int32) (σ1 : CS) : Option (Unit × CS) :=
    b2 (FX4_advance σ1) fun (_ : Unit) σ_6 =>
    b2 (FX4_readNewName L σ_6) fun (_ : Unit) σ_7 =>
    if x1 = (3 : Int32) then
      FX4_readItem_75 L x1 (σ_6.2.1 4306) (37 : Int32) σ_7
    else
      if x1 = (1 : Int32) then
        FX4_readItem_75 L x1 (σ_6.2.1 4306) (38 : Int32) σ_7
      else
        FX4_readItem_75 L x1 (σ_6.2.1 4306) (44 : Int32) σ_7
def FX4_readItem (L : Nat)  (σ : CS) : Option (Unit × CS) :=
  if (σ.1 4304) < 0 then
    b2 (FX4_fail σ) fun (_ : Unit) σ_2 =>
    some ((), σ_2)
  else
    if (σ.1 4304) ≤ (3 : Int32) then
      b2 (FX5_isFull (σ.1 4304) σ) fun r_4 σ_4 =>
      if r_4 = 0 then
        FX4_readItem_39 L (σ.1 4304) σ_4
      else
        b2 (FX4_complain (4 : Int32) (σ_4.1 4305) σ_4) fun (_ : Unit) σ_21 =>
        FX4_readItem_39 L (σ.1 4304) σ_21
    else
      b2 (FX4_fail σ) fun (_ : Unit) σ_22 =>
      some ((), σ_22)
abbrev rmX4_readItem : Room := { frames := 221, cells := 0, slots := 0, locals := 8426 }
set_option maxRecDepth 100000 in
set_option maxHeartbeats 4000000 in
theorem kX4_readItem {l : Launch} {D : va_G} {cI cJ cQ : ClassId} {ad : Nat → Nat} {ra : Nat → Nat → Nat} {adK adV tK : Nat → Nat} {L : Nat}  {σ σ' : CS} (h : FX4_readItem L  σ = some ((), σ')) : gMet l yX4_readItem qX4_readItem rmX4_readItem 0 0 D vwCl [(cI, .int), (cJ, .long), (cQ, .array .long)] (cKS adK adV tK) [.ref (ad 43)] (CW cI cJ cQ ad ra σ) (CW cI cJ cQ ad ra σ') none := by
  refine gMet.of (cc := cX4_readItem) (maxL := 5) (ret := none) (by decide) rfl (Nat.le_of_ble_eq_true rfl) ?_
  intro p e s m args below meth c S hr hlk hnm hK hKS hA hB ls hl
  have hl : lv_has ls 5 [(0, .ref (ad 43))] := hl
  replace S : CallFix p m c cX4_readItem 5 s args (_ :: wsL_law) RX4 := S
  rw [FX4_readItem] at h
  have P118 : ∀ (x1 : Int32) (x2 : Int64) (x4 : Int32) (σ1 : CS) (H : Heap) (locs : List Loc) (ls : Array Slot), FX4_readItem_118 L x1 x2 x4 σ1 = some ((), σ') → gB D vwCl (va_A (CW cI cJ cQ ad ra σ) s.heap.size) s.heap (CW cI cJ cQ ad ra σ1) [] H locs → lv_has ls 5 [(0, .ref (ad 43)), (1, .int x1), (2, .long x2), (4, .int x4)] → W p l e rmX4_readItem s m args below meth c H locs 0 0 (MQ below (gQ D vwCl (CW cI cJ cQ ad ra σ) (CW cI cJ cQ ad ra σ') none s.heap.size) args s 0 0 (va_A (CW cI cJ cQ ad ra σ) s.heap.size)) (F0 m 118 ls []) := by
    intro  x1 x2 x4 σ1 H locs ls h hB hl
    rw [FX4_readItem_118] at h
    refine lv_aload_n S.1 S.2.1 dX4_readItem_118 rfl (lv_at hl 0 rfl) ?_
    refine lv_bipush (v := (36 : Int32)) S.1 S.2.1 dX4_readItem_119 (by decide) ?_
    obtain ⟨_, σ_15, e_15, h⟩ := b2s h
    refine cCallV S hK cKSc hKS hA (kX4_expect e_15) (cwX4_106 S.2.2.2.2 (rm := rmX4_expect) rfl rfl ⟨Nat.le_of_ble_eq_true rfl, Nat.le_of_ble_eq_true rfl⟩) hB 43 rfl rfl rfl hl.1 rfl (lv_room (Nat.le_of_ble_eq_true rfl)) dX4_readItem_121 ⟨Nat.zero_le _, Nat.zero_le _⟩ (fun H locs hB => ?_)
    refine lv_aload_n S.1 S.2.1 dX4_readItem_124 rfl (lv_at hl 0 rfl) ?_
    refine tg_43_7 S hK hB (S.2.2.2.2 _ (List.mem_cons_of_mem _ wf_X4_69)) rfl dX4_readItem_125 ?_
    refine lv_if_ne (tgt := 142) S.1 S.2.1 dX4_readItem_128 (by decide) (fun c_16 => ?_) (fun c_16 => ?_)
    · replace h := (if_neg c_16).symm.trans h
      cases h
      exact gRetV S.1 S.2.1 hr hlk hB dX4_readItem_142
    · replace h := (if_pos c_16).symm.trans h
      refine lv_aload_n S.1 S.2.1 dX4_readItem_131 rfl (lv_at hl 0 rfl) ?_
      refine tg_43_2 S hK hB (S.2.2.2.2 _ (List.mem_cons_of_mem _ wf_X4_19)) dX4_readItem_132 ?_
      refine lv_lload_n S.1 S.2.1 dX4_readItem_135 rfl (lv_at hl 2 rfl) ?_
      refine lv_iload_n S.1 S.2.1 dX4_readItem_136 rfl (lv_at hl 1 rfl) ?_
      refine lv_iload S.1 S.2.1 dX4_readItem_137 (lv_at hl 3 rfl) ?_
      obtain ⟨_, σ_17, e_17, h⟩ := b2s h
      refine cCallV S hK cKSc hKS hA (kX5_add e_17) (cwX4_119 S.2.2.2.2 (rm := rmX5_add) rfl rfl ⟨Nat.le_of_ble_eq_true rfl, Nat.le_of_ble_eq_true rfl⟩) hB 28 rfl rfl rfl hl.1 rfl (lv_room (Nat.le_of_ble_eq_true rfl)) dX4_readItem_139 ⟨Nat.zero_le _, Nat.zero_le _⟩ (fun H locs hB => ?_)
      cases h
      exact gRetV S.1 S.2.1 hr hlk hB dX4_readItem_142
  have P107 : ∀ (x1 : Int32) (x2 : Int64) (y0 : Int32) (σ1 : CS) (H : Heap) (locs : List Loc) (ls : Array Slot), FX4_readItem_107 L x1 x2 y0 σ1 = some ((), σ') → gB D vwCl (va_A (CW cI cJ cQ ad ra σ) s.heap.size) s.heap (CW cI cJ cQ ad ra σ1) [] H locs → lv_has ls 5 [(0, .ref (ad 43)), (1, .int x1), (2, .long x2)] → W p l e rmX4_readItem s m args below meth c H locs 0 0 (MQ below (gQ D vwCl (CW cI cJ cQ ad ra σ) (CW cI cJ cQ ad ra σ') none s.heap.size) args s 0 0 (va_A (CW cI cJ cQ ad ra σ) s.heap.size)) (F0 m 107 ls [.int y0]) := by
    intro  x1 x2 y0 σ1 H locs ls h hB hl
    rw [FX4_readItem_107] at h
    refine lv_istore (lv' := [(4, .int y0), (0, .ref (ad 43)), (1, .int x1), (2, .long x2)]) S.1 S.2.1 dX4_readItem_107 hl (by decide) rfl (fun ls hl => ?_)
    refine lv_iload_n S.1 S.2.1 dX4_readItem_109 rfl (lv_at hl 2 rfl) ?_
    refine lv_iconst (v := (3 : Int32)) S.1 S.2.1 dX4_readItem_110 (by decide) ?_
    refine lv_icmp_ne (tgt := 118) S.1 S.2.1 dX4_readItem_111 (by decide) (fun c_14 => ?_) (fun c_14 => ?_)
    · replace h := (if_neg c_14).symm.trans h
      exact P118  _ _ _ _ _ _ _ h hB (lv_sub hl [1, 2, 3, 0] rfl)
    · replace h := (if_pos c_14).symm.trans h
      refine lv_aload_n S.1 S.2.1 dX4_readItem_114 rfl (lv_at hl 1 rfl) ?_
      obtain ⟨_, σ_18, e_18, h⟩ := b2s h
      refine cCallV S hK cKSc hKS hA (kX4_readLevel e_18) (cwX4_116 S.2.2.2.2 (rm := rmX4_readLevel) rfl rfl ⟨Nat.le_of_ble_eq_true rfl, Nat.le_of_ble_eq_true rfl⟩) hB 43 rfl rfl rfl hl.1 rfl (lv_room (Nat.le_of_ble_eq_true rfl)) dX4_readItem_115 ⟨Nat.zero_le _, Nat.zero_le _⟩ (fun H locs hB => ?_)
      exact P118  _ _ _ _ _ _ _ h hB (lv_sub hl [1, 2, 3, 0] rfl)
  have P75 : ∀ (x1 : Int32) (x2 : Int64) (y1 : Int32) (σ1 : CS) (H : Heap) (locs : List Loc) (ls : Array Slot), FX4_readItem_75 L x1 x2 y1 σ1 = some ((), σ') → gB D vwCl (va_A (CW cI cJ cQ ad ra σ) s.heap.size) s.heap (CW cI cJ cQ ad ra σ1) [] H locs → lv_has ls 5 [(0, .ref (ad 43)), (1, .int x1), (2, .long x2)] → W p l e rmX4_readItem s m args below meth c H locs 0 0 (MQ below (gQ D vwCl (CW cI cJ cQ ad ra σ) (CW cI cJ cQ ad ra σ') none s.heap.size) args s 0 0 (va_A (CW cI cJ cQ ad ra σ) s.heap.size)) (F0 m 75 ls [.int y1, .ref (ad 43)]) := by
    intro  x1 x2 y1 σ1 H locs ls h hB hl
    rw [FX4_readItem_75] at h
    obtain ⟨_, σ_10, e_10, h⟩ := b2s h
    refine cCallV S hK cKSc hKS hA (kX4_expect e_10) (cwX4_106 S.2.2.2.2 (rm := rmX4_expect) rfl rfl ⟨Nat.le_of_ble_eq_true rfl, Nat.le_of_ble_eq_true rfl⟩) hB 43 rfl rfl rfl hl.1 rfl (lv_room (Nat.le_of_ble_eq_true rfl)) dX4_readItem_75 ⟨Nat.zero_le _, Nat.zero_le _⟩ (fun H locs hB => ?_)
    refine lv_iload_n S.1 S.2.1 dX4_readItem_78 rfl (lv_at hl 1 rfl) ?_
    refine lv_if_ne (tgt := 89) S.1 S.2.1 dX4_readItem_79 (by decide) (fun c_11 => ?_) (fun c_11 => ?_)
    · replace h := (if_neg c_11).symm.trans h
      refine lv_iload_n S.1 S.2.1 dX4_readItem_89 rfl (lv_at hl 1 rfl) ?_
      refine lv_iconst (v := (2 : Int32)) S.1 S.2.1 dX4_readItem_90 (by decide) ?_
      refine lv_icmp_ne (tgt := 102) S.1 S.2.1 dX4_readItem_91 (by decide) (fun c_12 => ?_) (fun c_12 => ?_)
      · replace h := (if_neg c_12).symm.trans h
        refine lv_aload_n S.1 S.2.1 dX4_readItem_102 rfl (lv_at hl 0 rfl) ?_
        refine lv_iconst (v := (0 : Int32)) S.1 S.2.1 dX4_readItem_103 (by decide) ?_
        obtain ⟨r_13, σ_13, e_13, h⟩ := b2s h
        refine cCallI S hK cKSc hKS hA (tSC4_X4_formula e_13) (cwX4_60 S.2.2.2.2 (rm := rtSC4) rfl rfl ⟨Nat.le_of_ble_eq_true rfl, Nat.le_of_ble_eq_true rfl⟩) hB 43 rfl rfl rfl hl.1 rfl (lv_room (Nat.le_of_ble_eq_true rfl)) dX4_readItem_104 ⟨Nat.zero_le _, Nat.zero_le _⟩ (fun H locs hB => ?_)
        exact P107  _ _ _ _ _ _ _ h hB hl
      · replace h := (if_pos c_12).symm.trans h
        refine lv_aload_n S.1 S.2.1 dX4_readItem_94 rfl (lv_at hl 0 rfl) ?_
        refine lv_iconst (v := (0 : Int32)) S.1 S.2.1 dX4_readItem_95 (by decide) ?_
        obtain ⟨r_19, σ_19, e_19, h⟩ := b2s h
        refine cCallI S hK cKSc hKS hA (tSC4_X4_expression e_19) (cwX4_113 S.2.2.2.2 (rm := rtSC4) rfl rfl ⟨Nat.le_of_ble_eq_true rfl, Nat.le_of_ble_eq_true rfl⟩) hB 43 rfl rfl rfl hl.1 rfl (lv_room (Nat.le_of_ble_eq_true rfl)) dX4_readItem_96 ⟨Nat.zero_le _, Nat.zero_le _⟩ (fun H locs hB => ?_)
        refine lv_goto (tgt := 107) S.1 S.2.1 dX4_readItem_99 (by decide) ?_
        exact P107  _ _ _ _ _ _ _ h hB hl
    · replace h := (if_pos c_11).symm.trans h
      refine lv_aload_n S.1 S.2.1 dX4_readItem_82 rfl (lv_at hl 0 rfl) ?_
      obtain ⟨r_20, σ_20, e_20, h⟩ := b2s h
      refine cCallI S hK cKSc hKS hA (kX4_readFirstValue e_20) (cwX4_109 S.2.2.2.2 (rm := rmX4_readFirstValue) rfl rfl ⟨Nat.le_of_ble_eq_true rfl, Nat.le_of_ble_eq_true rfl⟩) hB 43 rfl rfl rfl hl.1 rfl (lv_room (Nat.le_of_ble_eq_true rfl)) dX4_readItem_83 ⟨Nat.zero_le _, Nat.zero_le _⟩ (fun H locs hB => ?_)
      refine lv_goto (tgt := 107) S.1 S.2.1 dX4_readItem_86 (by decide) ?_
      exact P107  _ _ _ _ _ _ _ h hB hl
  have P39 : ∀ (x1 : Int32) (σ1 : CS) (H : Heap) (locs : List Loc) (ls : Array Slot), FX4_readItem_39 L x1 σ1 = some ((), σ') → gB D vwCl (va_A (CW cI cJ cQ ad ra σ) s.heap.size) s.heap (CW cI cJ cQ ad ra σ1) [] H locs → lv_has ls 5 [(0, .ref (ad 43)), (1, .int x1)] → W p l e rmX4_readItem s m args below meth c H locs 0 0 (MQ below (gQ D vwCl (CW cI cJ cQ ad ra σ) (CW cI cJ cQ ad ra σ') none s.heap.size) args s 0 0 (va_A (CW cI cJ cQ ad ra σ) s.heap.size)) (F0 m 39 ls []) := by
    intro  x1 σ1 H locs ls h hB hl
    rw [FX4_readItem_39] at h
    refine lv_aload_n S.1 S.2.1 dX4_readItem_39 rfl (lv_at hl 0 rfl) ?_
    obtain ⟨_, σ_6, e_6, h⟩ := b2s h
    refine cCallV S hK cKSc hKS hA (kX4_advance e_6) (cwX4_75 S.2.2.2.2 (rm := rmX4_advance) rfl rfl ⟨Nat.le_of_ble_eq_true rfl, Nat.le_of_ble_eq_true rfl⟩) hB 43 rfl rfl rfl hl.1 rfl (lv_room (Nat.le_of_ble_eq_true rfl)) dX4_readItem_40 ⟨Nat.zero_le _, Nat.zero_le _⟩ (fun H locs hB => ?_)
    refine lv_aload_n S.1 S.2.1 dX4_readItem_43 rfl (lv_at hl 0 rfl) ?_
    refine tg_43_6 S hK hB (S.2.2.2.2 _ (List.mem_cons_of_mem _ wf_X4_95)) rfl dX4_readItem_44 ?_
    refine lv_lstore_n (lv' := [(2, .long (σ_6.2.1 4306)), (0, .ref (ad 43)), (1, .int x1)]) S.1 S.2.1 dX4_readItem_47 rfl hl (by decide) rfl (fun ls hl => ?_)
    refine lv_aload_n S.1 S.2.1 dX4_readItem_48 rfl (lv_at hl 1 rfl) ?_
    obtain ⟨_, σ_7, e_7, h⟩ := b2s h
    refine cCallV S hK cKSc hKS hA (kX4_readNewName e_7) (cwX4_103 S.2.2.2.2 (rm := rmX4_readNewName) rfl rfl ⟨Nat.le_of_ble_eq_true rfl, Nat.le_of_ble_eq_true rfl⟩) hB 43 rfl rfl rfl hl.1 rfl (lv_room (Nat.le_of_ble_eq_true rfl)) dX4_readItem_49 ⟨Nat.zero_le _, Nat.zero_le _⟩ (fun H locs hB => ?_)
    refine lv_aload_n S.1 S.2.1 dX4_readItem_52 rfl (lv_at hl 1 rfl) ?_
    refine lv_iload_n S.1 S.2.1 dX4_readItem_53 rfl (lv_at hl 2 rfl) ?_
    refine lv_iconst (v := (3 : Int32)) S.1 S.2.1 dX4_readItem_54 (by decide) ?_
    refine lv_icmp_ne (tgt := 63) S.1 S.2.1 dX4_readItem_55 (by decide) (fun c_8 => ?_) (fun c_8 => ?_)
    · replace h := (if_neg c_8).symm.trans h
      refine lv_iload_n S.1 S.2.1 dX4_readItem_63 rfl (lv_at hl 2 rfl) ?_
      refine lv_iconst (v := (1 : Int32)) S.1 S.2.1 dX4_readItem_64 (by decide) ?_
      refine lv_icmp_ne (tgt := 73) S.1 S.2.1 dX4_readItem_65 (by decide) (fun c_9 => ?_) (fun c_9 => ?_)
      · replace h := (if_neg c_9).symm.trans h
        refine lv_bipush (v := (44 : Int32)) S.1 S.2.1 dX4_readItem_73 (by decide) ?_
        exact P75  _ _ _ _ _ _ _ h hB (lv_sub hl [1, 2, 0] rfl)
      · replace h := (if_pos c_9).symm.trans h
        refine lv_bipush (v := (38 : Int32)) S.1 S.2.1 dX4_readItem_68 (by decide) ?_
        refine lv_goto (tgt := 75) S.1 S.2.1 dX4_readItem_70 (by decide) ?_
        exact P75  _ _ _ _ _ _ _ h hB (lv_sub hl [1, 2, 0] rfl)
    · replace h := (if_pos c_8).symm.trans h
      refine lv_bipush (v := (37 : Int32)) S.1 S.2.1 dX4_readItem_58 (by decide) ?_
      refine lv_goto (tgt := 75) S.1 S.2.1 dX4_readItem_60 (by decide) ?_
      exact P75  _ _ _ _ _ _ _ h hB (lv_sub hl [1, 2, 0] rfl)
  refine lv_aload_n S.1 S.2.1 dX4_readItem_0 rfl (lv_at hl 0 rfl) ?_
  refine tg_43_4 S hK hB (S.2.2.2.2 _ (List.mem_cons_of_mem _ wf_X4_34)) rfl dX4_readItem_1 ?_
  refine lv_istore_n (lv' := [(1, .int (σ.1 4304)), (0, .ref (ad 43))]) S.1 S.2.1 dX4_readItem_4 rfl hl (by decide) rfl (fun ls hl => ?_)
  refine lv_iload_n S.1 S.2.1 dX4_readItem_5 rfl (lv_at hl 0 rfl) ?_
  refine lv_if_lt (tgt := 14) S.1 S.2.1 dX4_readItem_6 (by decide) (fun c_1 => ?_) (fun c_1 => ?_)
  · replace h := (if_pos c_1).symm.trans h
    refine lv_aload_n S.1 S.2.1 dX4_readItem_14 rfl (lv_at hl 1 rfl) ?_
    obtain ⟨_, σ_2, e_2, h⟩ := b2s h
    refine cCallV S hK cKSc hKS hA (kX4_fail e_2) (cwX4_63 S.2.2.2.2 (rm := rmX4_fail) rfl rfl ⟨Nat.le_of_ble_eq_true rfl, Nat.le_of_ble_eq_true rfl⟩) hB 43 rfl rfl rfl hl.1 rfl (lv_room (Nat.le_of_ble_eq_true rfl)) dX4_readItem_15 ⟨Nat.zero_le _, Nat.zero_le _⟩ (fun H locs hB => ?_)
    cases h
    exact gRetV S.1 S.2.1 hr hlk hB dX4_readItem_18
  · replace h := (if_neg c_1).symm.trans h
    refine lv_iload_n S.1 S.2.1 dX4_readItem_9 rfl (lv_at hl 0 rfl) ?_
    refine lv_iconst (v := (3 : Int32)) S.1 S.2.1 dX4_readItem_10 (by decide) ?_
    refine lv_icmp_le (tgt := 19) S.1 S.2.1 dX4_readItem_11 (by decide) (fun c_3 => ?_) (fun c_3 => ?_)
    · replace h := (if_pos c_3).symm.trans h
      refine lv_aload_n S.1 S.2.1 dX4_readItem_19 rfl (lv_at hl 1 rfl) ?_
      refine tg_43_2 S hK hB (S.2.2.2.2 _ (List.mem_cons_of_mem _ wf_X4_19)) dX4_readItem_20 ?_
      refine lv_iload_n S.1 S.2.1 dX4_readItem_23 rfl (lv_at hl 0 rfl) ?_
      obtain ⟨r_4, σ_4, e_4, h⟩ := b2s h
      refine cCallI S hK cKSc hKS hA (kX5_isFull e_4) (cwX4_99 S.2.2.2.2 (rm := rmX5_isFull) rfl rfl ⟨Nat.le_of_ble_eq_true rfl, Nat.le_of_ble_eq_true rfl⟩) hB 28 rfl rfl rfl hl.1 rfl (lv_room (Nat.le_of_ble_eq_true rfl)) dX4_readItem_24 ⟨Nat.zero_le _, Nat.zero_le _⟩ (fun H locs hB => ?_)
      refine lv_if_eq (tgt := 39) S.1 S.2.1 dX4_readItem_27 (by decide) (fun c_5 => ?_) (fun c_5 => ?_)
      · replace h := (if_pos c_5).symm.trans h
        exact P39  _ _ _ _ _ h hB (lv_sub hl [1, 0] rfl)
      · replace h := (if_neg c_5).symm.trans h
        refine lv_aload_n S.1 S.2.1 dX4_readItem_30 rfl (lv_at hl 1 rfl) ?_
        refine lv_iconst (v := (4 : Int32)) S.1 S.2.1 dX4_readItem_31 (by decide) ?_
        refine lv_aload_n S.1 S.2.1 dX4_readItem_32 rfl (lv_at hl 1 rfl) ?_
        refine tg_43_5 S hK hB (S.2.2.2.2 _ (List.mem_cons_of_mem _ wf_X4_53)) rfl dX4_readItem_33 ?_
        obtain ⟨_, σ_21, e_21, h⟩ := b2s h
        refine cCallV S hK cKSc hKS hA (kX4_complain e_21) (cwX4_56 S.2.2.2.2 (rm := rmX4_complain) rfl rfl ⟨Nat.le_of_ble_eq_true rfl, Nat.le_of_ble_eq_true rfl⟩) hB 43 rfl rfl rfl hl.1 rfl (lv_room (Nat.le_of_ble_eq_true rfl)) dX4_readItem_36 ⟨Nat.zero_le _, Nat.zero_le _⟩ (fun H locs hB => ?_)
        exact P39  _ _ _ _ _ h hB (lv_sub hl [1, 0] rfl)
    · replace h := (if_neg c_3).symm.trans h
      refine lv_aload_n S.1 S.2.1 dX4_readItem_14 rfl (lv_at hl 1 rfl) ?_
      obtain ⟨_, σ_22, e_22, h⟩ := b2s h
      refine cCallV S hK cKSc hKS hA (kX4_fail e_22) (cwX4_63 S.2.2.2.2 (rm := rmX4_fail) rfl rfl ⟨Nat.le_of_ble_eq_true rfl, Nat.le_of_ble_eq_true rfl⟩) hB 43 rfl rfl rfl hl.1 rfl (lv_room (Nat.le_of_ble_eq_true rfl)) dX4_readItem_15 ⟨Nat.zero_le _, Nat.zero_le _⟩ (fun H locs hB => ?_)
      cases h
      exact gRetV S.1 S.2.1 hr hlk hB dX4_readItem_18
def FX4_readProgram_44 (L : Nat)   (σ1 : CS) : Option (Unit × CS) :=
    if (getI 4 (σ1.2.2.1 36) (3 : Int32)) = 0 then
      b2 (FX4_complain (6 : Int32) (σ1.1 4305) σ1) fun (_ : Unit) σ_5 =>
      some ((), σ_5)
    else
      some ((), σ1)
def FX4_readProgram_11 (L : Nat)  : Nat → Int32 → CS → Option (Unit × CS)
  | 0, _, _ => none
  | n+1, x1, σ1 =>
    if (400 : Int32) ≤ x1 then
      FX4_readProgram_44 L σ1
    else
      if (σ1.1 4304) = (53 : Int32) then
        FX4_readProgram_44 L σ1
      else
        if (σ1.1 4309) = 0 then
          b2 (FX4_readItem L σ1) fun (_ : Unit) σ_8 =>
          (FX4_readProgram_11 L n) (x1 + (1 : Int32)) σ_8
        else
          FX4_readProgram_44 L σ1
def FX4_readProgram (L : Nat)  (σ : CS) : Option (Unit × CS) :=
  b2 (FX4_beginAt (0 : Int32) σ) fun (_ : Unit) σ_1 =>
  b2 (FX4_readItem L σ_1) fun (_ : Unit) σ_2 =>
  FX4_readProgram_11 L L (1 : Int32) σ_2
abbrev rmX4_readProgram : Room := { frames := 222, cells := 0, slots := 0, locals := 8450 }
set_option maxRecDepth 100000 in
set_option maxHeartbeats 4000000 in
theorem kX4_readProgram {l : Launch} {D : va_G} {cI cJ cQ : ClassId} {ad : Nat → Nat} {ra : Nat → Nat → Nat} {adK adV tK : Nat → Nat} {L : Nat}  {σ σ' : CS} (h : FX4_readProgram L  σ = some ((), σ')) : gMet l yX4_readProgram qX4_readProgram rmX4_readProgram 0 0 D vwCl [(cI, .int), (cJ, .long), (cQ, .array .long)] (cKS adK adV tK) [.ref (ad 43)] (CW cI cJ cQ ad ra σ) (CW cI cJ cQ ad ra σ') none := by
  refine gMet.of (cc := cX4_readProgram) (maxL := 2) (ret := none) (by decide) rfl (Nat.le_of_ble_eq_true rfl) ?_
  intro p e s m args below meth c S hr hlk hnm hK hKS hA hB ls hl
  have hl : lv_has ls 2 [(0, .ref (ad 43))] := hl
  replace S : CallFix p m c cX4_readProgram 2 s args (_ :: wsL_law) RX4 := S
  rw [FX4_readProgram] at h
  have P44 : ∀  (σ1 : CS) (H : Heap) (locs : List Loc) (ls : Array Slot), FX4_readProgram_44 L  σ1 = some ((), σ') → gB D vwCl (va_A (CW cI cJ cQ ad ra σ) s.heap.size) s.heap (CW cI cJ cQ ad ra σ1) [] H locs → lv_has ls 2 [(0, .ref (ad 43))] → W p l e rmX4_readProgram s m args below meth c H locs 0 0 (MQ below (gQ D vwCl (CW cI cJ cQ ad ra σ) (CW cI cJ cQ ad ra σ') none s.heap.size) args s 0 0 (va_A (CW cI cJ cQ ad ra σ) s.heap.size)) (F0 m 44 ls []) := by
    intro   σ1 H locs ls h hB hl
    rw [FX4_readProgram_44] at h
    refine lv_aload_n S.1 S.2.1 dX4_readProgram_44 rfl (lv_at hl 0 rfl) ?_
    refine tg_43_2 S hK hB (S.2.2.2.2 _ (List.mem_cons_of_mem _ wf_X4_19)) dX4_readProgram_45 ?_
    refine tgN_28_3 S hK hB (nF hKS 15 rfl) dX4_readProgram_48 ?_
    refine lv_iconst (v := (3 : Int32)) S.1 S.2.1 dX4_readProgram_51 (by decide) ?_
    refine lg_35 (r := (getI 4 (σ1.2.2.1 36) (3 : Int32))) S hK cKSc hKS hA hB rfl (cwX4_47 S.2.2.2.2 (rm := { frames := 0, cells := 0, slots := 0, locals := 0 }) rfl rfl ⟨Nat.le_of_ble_eq_true rfl, Nat.le_of_ble_eq_true rfl⟩) hl.1 (lv_room (Nat.le_of_ble_eq_true rfl)) dX4_readProgram_52 ⟨Nat.zero_le _, Nat.zero_le _⟩ (fun H locs hB => ?_)
    refine lv_if_ne (tgt := 68) S.1 S.2.1 dX4_readProgram_55 (by decide) (fun c_4 => ?_) (fun c_4 => ?_)
    · replace h := (if_neg c_4).symm.trans h
      cases h
      exact gRetV S.1 S.2.1 hr hlk hB dX4_readProgram_68
    · replace h := (if_pos c_4).symm.trans h
      refine lv_aload_n S.1 S.2.1 dX4_readProgram_58 rfl (lv_at hl 0 rfl) ?_
      refine lv_bipush (v := (6 : Int32)) S.1 S.2.1 dX4_readProgram_59 (by decide) ?_
      refine lv_aload_n S.1 S.2.1 dX4_readProgram_61 rfl (lv_at hl 0 rfl) ?_
      refine tg_43_5 S hK hB (S.2.2.2.2 _ (List.mem_cons_of_mem _ wf_X4_53)) rfl dX4_readProgram_62 ?_
      obtain ⟨_, σ_5, e_5, h⟩ := b2s h
      refine cCallV S hK cKSc hKS hA (kX4_complain e_5) (cwX4_56 S.2.2.2.2 (rm := rmX4_complain) rfl rfl ⟨Nat.le_of_ble_eq_true rfl, Nat.le_of_ble_eq_true rfl⟩) hB 43 rfl rfl rfl hl.1 rfl (lv_room (Nat.le_of_ble_eq_true rfl)) dX4_readProgram_65 ⟨Nat.zero_le _, Nat.zero_le _⟩ (fun H locs hB => ?_)
      cases h
      exact gRetV S.1 S.2.1 hr hlk hB dX4_readProgram_68
  have P11 : ∀  (n : Nat), ∀ (x1 : Int32) (σ1 : CS) (H : Heap) (locs : List Loc) (ls : Array Slot), FX4_readProgram_11 L n x1 σ1 = some ((), σ') → gB D vwCl (va_A (CW cI cJ cQ ad ra σ) s.heap.size) s.heap (CW cI cJ cQ ad ra σ1) [] H locs → lv_has ls 2 [(0, .ref (ad 43)), (1, .int x1)] → W p l e rmX4_readProgram s m args below meth c H locs 0 0 (MQ below (gQ D vwCl (CW cI cJ cQ ad ra σ) (CW cI cJ cQ ad ra σ') none s.heap.size) args s 0 0 (va_A (CW cI cJ cQ ad ra σ) s.heap.size)) (F0 m 11 ls []) := by
    intro n
    induction n with
    | zero => intro x1 σ1 H locs ls h; simp only [FX4_readProgram_11] at h; cases h
    | succ n ih =>
      intro x1 σ1 H locs ls h hB hl
      rw [FX4_readProgram_11] at h
      refine lv_iload_n S.1 S.2.1 dX4_readProgram_11 rfl (lv_at hl 1 rfl) ?_
      refine lv_sipush (v := (400 : Int32)) S.1 S.2.1 dX4_readProgram_12 (by decide) ?_
      refine lv_icmp_ge (tgt := 44) S.1 S.2.1 dX4_readProgram_15 (by decide) (fun c_3 => ?_) (fun c_3 => ?_)
      · replace h := (if_pos c_3).symm.trans h
        exact P44  _ _ _ _ h hB (lv_sub hl [0] rfl)
      · replace h := (if_neg c_3).symm.trans h
        refine lv_aload_n S.1 S.2.1 dX4_readProgram_18 rfl (lv_at hl 0 rfl) ?_
        refine tg_43_4 S hK hB (S.2.2.2.2 _ (List.mem_cons_of_mem _ wf_X4_34)) rfl dX4_readProgram_19 ?_
        refine lv_bipush (v := (53 : Int32)) S.1 S.2.1 dX4_readProgram_22 (by decide) ?_
        refine lv_icmp_eq (tgt := 44) S.1 S.2.1 dX4_readProgram_24 (by decide) (fun c_6 => ?_) (fun c_6 => ?_)
        · replace h := (if_pos c_6).symm.trans h
          exact P44  _ _ _ _ h hB (lv_sub hl [0] rfl)
        · replace h := (if_neg c_6).symm.trans h
          refine lv_aload_n S.1 S.2.1 dX4_readProgram_27 rfl (lv_at hl 0 rfl) ?_
          refine tg_43_9 S hK hB (S.2.2.2.2 _ (List.mem_cons_of_mem _ wf_X4_37)) rfl dX4_readProgram_28 ?_
          refine lv_if_ne (tgt := 44) S.1 S.2.1 dX4_readProgram_31 (by decide) (fun c_7 => ?_) (fun c_7 => ?_)
          · replace h := (if_neg c_7).symm.trans h
            exact P44  _ _ _ _ h hB (lv_sub hl [0] rfl)
          · replace h := (if_pos c_7).symm.trans h
            refine lv_aload_n S.1 S.2.1 dX4_readProgram_34 rfl (lv_at hl 0 rfl) ?_
            obtain ⟨_, σ_8, e_8, h⟩ := b2s h
            refine cCallV S hK cKSc hKS hA (kX4_readItem e_8) (cwX4_31 S.2.2.2.2 (rm := rmX4_readItem) rfl rfl ⟨Nat.le_of_ble_eq_true rfl, Nat.le_of_ble_eq_true rfl⟩) hB 43 rfl rfl rfl hl.1 rfl (lv_room (Nat.le_of_ble_eq_true rfl)) dX4_readProgram_35 ⟨Nat.zero_le _, Nat.zero_le _⟩ (fun H locs hB => ?_)
            refine lv_iinc (v := (x1 + (1 : Int32))) (lv' := [(1, .int (x1 + (1 : Int32))), (0, .ref (ad 43))]) S.1 S.2.1 dX4_readProgram_38 hl (k := 1) rfl rfl (by decide) rfl (fun ls hl => ?_)
            refine lv_goto (tgt := 11) S.1 S.2.1 dX4_readProgram_41 (by decide) ?_
            exact ih _ _ _ _ _ h hB (lv_sub hl [1, 0] rfl)
  refine lv_aload_n S.1 S.2.1 dX4_readProgram_0 rfl (lv_at hl 0 rfl) ?_
  refine lv_iconst (v := (0 : Int32)) S.1 S.2.1 dX4_readProgram_1 (by decide) ?_
  obtain ⟨_, σ_1, e_1, h⟩ := b2s h
  refine cCallV S hK cKSc hKS hA (kX4_beginAt e_1) (cwX4_27 S.2.2.2.2 (rm := rmX4_beginAt) rfl rfl ⟨Nat.le_of_ble_eq_true rfl, Nat.le_of_ble_eq_true rfl⟩) hB 43 rfl rfl rfl hl.1 rfl (lv_room (Nat.le_of_ble_eq_true rfl)) dX4_readProgram_2 ⟨Nat.zero_le _, Nat.zero_le _⟩ (fun H locs hB => ?_)
  refine lv_aload_n S.1 S.2.1 dX4_readProgram_5 rfl (lv_at hl 0 rfl) ?_
  obtain ⟨_, σ_2, e_2, h⟩ := b2s h
  refine cCallV S hK cKSc hKS hA (kX4_readItem e_2) (cwX4_31 S.2.2.2.2 (rm := rmX4_readItem) rfl rfl ⟨Nat.le_of_ble_eq_true rfl, Nat.le_of_ble_eq_true rfl⟩) hB 43 rfl rfl rfl hl.1 rfl (lv_room (Nat.le_of_ble_eq_true rfl)) dX4_readProgram_6 ⟨Nat.zero_le _, Nat.zero_le _⟩ (fun H locs hB => ?_)
  refine lv_iconst (v := (1 : Int32)) S.1 S.2.1 dX4_readProgram_9 (by decide) ?_
  refine lv_istore_n (lv' := [(1, .int (1 : Int32)), (0, .ref (ad 43))]) S.1 S.2.1 dX4_readProgram_10 rfl hl (by decide) rfl (fun ls hl => ?_)
  exact P11  L _ _ _ _ _ h hB (lv_sub hl [1, 0] rfl)
def FX4_readQuestion (L : Nat) (p0 : Int32) (σ : CS) : Option (Int32 × CS) :=
  b2 (FX4_beginAt p0 σ) fun (_ : Unit) σ_1 =>
  b2 (FSC4 L dSC4 0 (0 : Int32) σ_1) fun r_2 σ_2 =>
  if (σ_2.1 4304) = (53 : Int32) then
    some (r_2, σ_2)
  else
    b2 (FX4_fail σ_2) fun (_ : Unit) σ_4 =>
    some (r_2, σ_4)
abbrev rmX4_readQuestion : Room := { frames := 221, cells := 0, slots := 0, locals := 8425 }
set_option maxRecDepth 100000 in
set_option maxHeartbeats 4000000 in
theorem kX4_readQuestion {l : Launch} {D : va_G} {cI cJ cQ : ClassId} {ad : Nat → Nat} {ra : Nat → Nat → Nat} {adK adV tK : Nat → Nat} {L : Nat} {p0 : Int32} {σ σ' : CS} {r : Int32} (h : FX4_readQuestion L p0 σ = some (r, σ')) : gMet l yX4_readQuestion qX4_readQuestion rmX4_readQuestion 0 0 D vwCl [(cI, .int), (cJ, .long), (cQ, .array .long)] (cKS adK adV tK) [.ref (ad 43), .int p0] (CW cI cJ cQ ad ra σ) (CW cI cJ cQ ad ra σ') (some (.int r)) := by
  refine gMet.of (cc := cX4_readQuestion) (maxL := 3) (ret := (some .int)) (by decide) rfl (Nat.le_of_ble_eq_true rfl) ?_
  intro p e s m args below meth c S hr hlk hnm hK hKS hA hB ls hl
  have hl : lv_has ls 3 [(0, .ref (ad 43)), (1, .int p0)] := hl
  replace S : CallFix p m c cX4_readQuestion 3 s args (_ :: wsL_law) RX4 := S
  rw [FX4_readQuestion] at h
  refine lv_aload_n S.1 S.2.1 dX4_readQuestion_0 rfl (lv_at hl 0 rfl) ?_
  refine lv_iload_n S.1 S.2.1 dX4_readQuestion_1 rfl (lv_at hl 1 rfl) ?_
  obtain ⟨_, σ_1, e_1, h⟩ := b2s h
  refine cCallV S hK cKSc hKS hA (kX4_beginAt e_1) (cwX4_27 S.2.2.2.2 (rm := rmX4_beginAt) rfl rfl ⟨Nat.le_of_ble_eq_true rfl, Nat.le_of_ble_eq_true rfl⟩) hB 43 rfl rfl rfl hl.1 rfl (lv_room (Nat.le_of_ble_eq_true rfl)) dX4_readQuestion_2 ⟨Nat.zero_le _, Nat.zero_le _⟩ (fun H locs hB => ?_)
  refine lv_aload_n S.1 S.2.1 dX4_readQuestion_5 rfl (lv_at hl 0 rfl) ?_
  refine lv_iconst (v := (0 : Int32)) S.1 S.2.1 dX4_readQuestion_6 (by decide) ?_
  obtain ⟨r_2, σ_2, e_2, h⟩ := b2s h
  refine cCallI S hK cKSc hKS hA (tSC4_X4_formula e_2) (cwX4_60 S.2.2.2.2 (rm := rtSC4) rfl rfl ⟨Nat.le_of_ble_eq_true rfl, Nat.le_of_ble_eq_true rfl⟩) hB 43 rfl rfl rfl hl.1 rfl (lv_room (Nat.le_of_ble_eq_true rfl)) dX4_readQuestion_7 ⟨Nat.zero_le _, Nat.zero_le _⟩ (fun H locs hB => ?_)
  refine lv_istore_n (lv' := [(2, .int r_2), (0, .ref (ad 43)), (1, .int p0)]) S.1 S.2.1 dX4_readQuestion_10 rfl hl (by decide) rfl (fun ls hl => ?_)
  refine lv_aload_n S.1 S.2.1 dX4_readQuestion_11 rfl (lv_at hl 1 rfl) ?_
  refine tg_43_4 S hK hB (S.2.2.2.2 _ (List.mem_cons_of_mem _ wf_X4_34)) rfl dX4_readQuestion_12 ?_
  refine lv_bipush (v := (53 : Int32)) S.1 S.2.1 dX4_readQuestion_15 (by decide) ?_
  refine lv_icmp_eq (tgt := 24) S.1 S.2.1 dX4_readQuestion_17 (by decide) (fun c_3 => ?_) (fun c_3 => ?_)
  · replace h := (if_pos c_3).symm.trans h
    refine lv_iload_n S.1 S.2.1 dX4_readQuestion_24 rfl (lv_at hl 0 rfl) ?_
    cases h
    exact gRetI S.1 S.2.1 hr hlk hB dX4_readQuestion_25
  · replace h := (if_neg c_3).symm.trans h
    refine lv_aload_n S.1 S.2.1 dX4_readQuestion_20 rfl (lv_at hl 1 rfl) ?_
    obtain ⟨_, σ_4, e_4, h⟩ := b2s h
    refine cCallV S hK cKSc hKS hA (kX4_fail e_4) (cwX4_63 S.2.2.2.2 (rm := rmX4_fail) rfl rfl ⟨Nat.le_of_ble_eq_true rfl, Nat.le_of_ble_eq_true rfl⟩) hB 43 rfl rfl rfl hl.1 rfl (lv_room (Nat.le_of_ble_eq_true rfl)) dX4_readQuestion_21 ⟨Nat.zero_le _, Nat.zero_le _⟩ (fun H locs hB => ?_)
    refine lv_iload_n S.1 S.2.1 dX4_readQuestion_24 rfl (lv_at hl 0 rfl) ?_
    cases h
    exact gRetI S.1 S.2.1 hr hlk hB dX4_readQuestion_25
