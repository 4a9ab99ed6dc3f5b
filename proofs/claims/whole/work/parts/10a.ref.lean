def FX11_thrown  (σ : MS) : Option (Int32 × MS) :=
  some (σ.1 0, σ)
abbrev rmX11_thrown : Room := { frames := 0, cells := 0, slots := 0, locals := 0 }
set_option maxRecDepth 100000 in
set_option maxHeartbeats 4000000 in
theorem kX11_thrown {l : Launch} {D : va_G} {cI cJ : ClassId} {ad : Nat → Nat} {KS : (Nat → Prop) → State → Prop} (hc : gC KS)  {σ σ' : MS} {r : Int32} (h : FX11_thrown  σ = some (r, σ')) : gMet l yX11_thrown qX11_thrown rmX11_thrown 0 0 D vwCl [(cI, .int), (cJ, .long)] KS [.ref (ad 0)] (MW cI cJ ad σ) (MW cI cJ ad σ') (some (.int r)) := by
  refine gMet.of (cc := cX11_thrown) (maxL := 1) (ret := (some .int)) (by decide) rfl (Nat.le_of_ble_eq_true rfl) ?_
  intro p e s m args below meth c S hr hlk hnm hK hKS hA hB ls hl
  have hl : lv_has ls 1 [(0, .ref (ad 0))] := hl
  replace S : CallFix p m c cX11_thrown 1 s args (_ :: wsL_law) RX11 := S
  rw [FX11_thrown] at h
  refine lv_aload_n S.1 S.2.1 dX11_thrown_0 rfl (lv_at hl 0 rfl) ?_
  refine mg_thrown S hK hB wf_X11_91 rfl dX11_thrown_1 ?_
  cases h
  exact gRetI S.1 S.2.1 hr hlk hB dX11_thrown_4
def FX11_no (p0 : Int32) (σ : MS) : Option (Int32 × MS) :=
  some ((0 : Int32), (sI σ 0 p0))
abbrev rmX11_no : Room := { frames := 0, cells := 0, slots := 0, locals := 0 }
set_option maxRecDepth 100000 in
set_option maxHeartbeats 4000000 in
theorem kX11_no {l : Launch} {D : va_G} {cI cJ : ClassId} {ad : Nat → Nat} {KS : (Nat → Prop) → State → Prop} (hc : gC KS) {p0 : Int32} {σ σ' : MS} {r : Int32} (h : FX11_no p0 σ = some (r, σ')) : gMet l yX11_no qX11_no rmX11_no 0 0 D vwCl [(cI, .int), (cJ, .long)] KS [.ref (ad 0), .int p0] (MW cI cJ ad σ) (MW cI cJ ad σ') (some (.int r)) := by
  refine gMet.of (cc := cX11_no) (maxL := 2) (ret := (some .int)) (by decide) rfl (Nat.le_of_ble_eq_true rfl) ?_
  intro p e s m args below meth c S hr hlk hnm hK hKS hA hB ls hl
  have hl : lv_has ls 2 [(0, .ref (ad 0)), (1, .int p0)] := hl
  replace S : CallFix p m c cX11_no 2 s args (_ :: wsL_law) RX11 := S
  rw [FX11_no] at h
  refine lv_aload_n S.1 S.2.1 dX11_no_0 rfl (lv_at hl 0 rfl) ?_
  refine lv_iload_n S.1 S.2.1 dX11_no_1 rfl (lv_at hl 1 rfl) ?_
  refine mp_thrown S hK hB wf_X11_91 dX11_no_2 (fun H locs hB => ?_)
  refine lv_iconst (v := (0 : Int32)) S.1 S.2.1 dX11_no_5 (by decide) ?_
  cases h
  exact gRetI S.1 S.2.1 hr hlk hB dX11_no_6
def FX11_isIn (p0 : Int32) (p1 : Int32) (p2 : Int32) : Option Int32 :=
  if p0 < p1 then
    some (0 : Int32)
  else
    if p2 < p0 then
      some (0 : Int32)
    else
      some (1 : Int32)
abbrev rmX11_isIn : Room := { frames := 0, cells := 0, slots := 0, locals := 0 }
set_option maxRecDepth 100000 in
set_option maxHeartbeats 4000000 in
theorem kX11_isIn {l : Launch} {D : va_G} {cI cJ : ClassId} {KS : (Nat → Prop) → State → Prop} (hc : gC KS) {p0 : Int32} {p1 : Int32} {p2 : Int32} {W0 : va_W} {r : Int32} (h : FX11_isIn p0 p1 p2 = some r) : gMet l yX11_isIn qX11_isIn rmX11_isIn 0 0 D vwCl [(cI, .int), (cJ, .long)] KS [.int p0, .int p1, .int p2] W0 W0 (some (.int r)) := by
  refine gMet.of (cc := cX11_isIn) (maxL := 3) (ret := (some .boolean)) (by decide) rfl (Nat.le_of_ble_eq_true rfl) ?_
  intro p e s m args below meth c S hr hlk hnm hK hKS hA hB ls hl
  have hl : lv_has ls 3 [(0, .int p0), (1, .int p1), (2, .int p2)] := hl
  replace S : CallFix p m c cX11_isIn 3 s args (_ :: wsL_law) RX11 := S
  rw [FX11_isIn] at h
  refine lv_iload_n S.1 S.2.1 dX11_isIn_0 rfl (lv_at hl 0 rfl) ?_
  refine lv_iload_n S.1 S.2.1 dX11_isIn_1 rfl (lv_at hl 1 rfl) ?_
  refine lv_icmp_lt (tgt := 14) S.1 S.2.1 dX11_isIn_2 (by decide) (fun c_1 => ?_) (fun c_1 => ?_)
  · replace h := (if_pos c_1).symm.trans h
    refine lv_iconst (v := (0 : Int32)) S.1 S.2.1 dX11_isIn_14 (by decide) ?_
    cases h
    exact gRetZ S.1 S.2.1 hr hlk hB rfl dX11_isIn_15
  · replace h := (if_neg c_1).symm.trans h
    refine lv_iload_n S.1 S.2.1 dX11_isIn_5 rfl (lv_at hl 0 rfl) ?_
    refine lv_iload_n S.1 S.2.1 dX11_isIn_6 rfl (lv_at hl 2 rfl) ?_
    refine lv_icmp_gt (tgt := 14) S.1 S.2.1 dX11_isIn_7 (by decide) (fun c_2 => ?_) (fun c_2 => ?_)
    · replace h := (if_pos c_2).symm.trans h
      refine lv_iconst (v := (0 : Int32)) S.1 S.2.1 dX11_isIn_14 (by decide) ?_
      cases h
      exact gRetZ S.1 S.2.1 hr hlk hB rfl dX11_isIn_15
    · replace h := (if_neg c_2).symm.trans h
      refine lv_iconst (v := (1 : Int32)) S.1 S.2.1 dX11_isIn_10 (by decide) ?_
      refine lv_goto (tgt := 15) S.1 S.2.1 dX11_isIn_11 (by decide) ?_
      cases h
      exact gRetZ S.1 S.2.1 hr hlk hB rfl dX11_isIn_15
def FX11_byteAt (p0 : Int32) (σ : MS) : Option (Int32 × MS) :=
  if (σ.1 2) ≤ p0 then
    some ((-1 : Int32), σ)
  else
    if (p0 < 0 ∨ 1800 ≤ p0.toNatClampNeg) then none else
    some ((σ.2.1 1 p0.toNatClampNeg), σ)
abbrev rmX11_byteAt : Room := { frames := 0, cells := 0, slots := 0, locals := 0 }
set_option maxRecDepth 100000 in
set_option maxHeartbeats 4000000 in
theorem kX11_byteAt {l : Launch} {D : va_G} {cI cJ : ClassId} {ad : Nat → Nat} {KS : (Nat → Prop) → State → Prop} (hc : gC KS) {p0 : Int32} {σ σ' : MS} {r : Int32} (h : FX11_byteAt p0 σ = some (r, σ')) : gMet l yX11_byteAt qX11_byteAt rmX11_byteAt 0 0 D vwCl [(cI, .int), (cJ, .long)] KS [.ref (ad 0), .int p0] (MW cI cJ ad σ) (MW cI cJ ad σ') (some (.int r)) := by
  refine gMet.of (cc := cX11_byteAt) (maxL := 2) (ret := (some .int)) (by decide) rfl (Nat.le_of_ble_eq_true rfl) ?_
  intro p e s m args below meth c S hr hlk hnm hK hKS hA hB ls hl
  have hl : lv_has ls 2 [(0, .ref (ad 0)), (1, .int p0)] := hl
  replace S : CallFix p m c cX11_byteAt 2 s args (_ :: wsL_law) RX11 := S
  rw [FX11_byteAt] at h
  refine lv_iload_n S.1 S.2.1 dX11_byteAt_0 rfl (lv_at hl 1 rfl) ?_
  refine lv_aload_n S.1 S.2.1 dX11_byteAt_1 rfl (lv_at hl 0 rfl) ?_
  refine mg_length S hK hB wf_X11_94 rfl dX11_byteAt_2 ?_
  refine lv_icmp_ge (tgt := 17) S.1 S.2.1 dX11_byteAt_5 (by decide) (fun c_1 => ?_) (fun c_1 => ?_)
  · replace h := (if_pos c_1).symm.trans h
    refine lv_iconst (v := (-1 : Int32)) S.1 S.2.1 dX11_byteAt_17 (by decide) ?_
    cases h
    exact gRetI S.1 S.2.1 hr hlk hB dX11_byteAt_18
  · replace h := (if_neg c_1).symm.trans h
    refine lv_aload_n S.1 S.2.1 dX11_byteAt_8 rfl (lv_at hl 0 rfl) ?_
    refine mg_tape S hK hB wf_X11_9 dX11_byteAt_9 ?_
    refine lv_iload_n S.1 S.2.1 dX11_byteAt_12 rfl (lv_at hl 1 rfl) ?_
    obtain ⟨b_2, h⟩ := gd h
    refine ml_tape (v := (σ.2.1 1 p0.toNatClampNeg)) S hK hB b_2 rfl dX11_byteAt_13 ?_
    refine lv_goto (tgt := 18) S.1 S.2.1 dX11_byteAt_14 (by decide) ?_
    cases h
    exact gRetI S.1 S.2.1 hr hlk hB dX11_byteAt_18
def FX11_isLetter (p0 : Int32) : Option Int32 :=
  (FX11_isIn p0 (97 : Int32) (122 : Int32)).bind fun r_1 =>
  if (r_1 ≠ 0 ∧ r_1 ≠ 1) then none else
  some r_1
abbrev rmX11_isLetter : Room := { frames := 1, cells := 0, slots := 0, locals := 22 }
set_option maxRecDepth 100000 in
set_option maxHeartbeats 4000000 in
theorem kX11_isLetter {l : Launch} {D : va_G} {cI cJ : ClassId} {KS : (Nat → Prop) → State → Prop} (hc : gC KS) {p0 : Int32} {W0 : va_W} {r : Int32} (h : FX11_isLetter p0 = some r) : gMet l yX11_isLetter qX11_isLetter rmX11_isLetter 0 0 D vwCl [(cI, .int), (cJ, .long)] KS [.int p0] W0 W0 (some (.int r)) := by
  refine gMet.of (cc := cX11_isLetter) (maxL := 1) (ret := (some .boolean)) (by decide) rfl (Nat.le_of_ble_eq_true rfl) ?_
  intro p e s m args below meth c S hr hlk hnm hK hKS hA hB ls hl
  have hl : lv_has ls 1 [(0, .int p0)] := hl
  replace S : CallFix p m c cX11_isLetter 1 s args (_ :: wsL_law) RX11 := S
  rw [FX11_isLetter] at h
  refine lv_iload_n S.1 S.2.1 dX11_isLetter_0 rfl (lv_at hl 0 rfl) ?_
  refine lv_bipush (v := (97 : Int32)) S.1 S.2.1 dX11_isLetter_1 (by decide) ?_
  refine lv_bipush (v := (122 : Int32)) S.1 S.2.1 dX11_isLetter_3 (by decide) ?_
  obtain ⟨r_1, e_1, h⟩ := bnd h
  refine mCallSI S hK hc hKS hA (kX11_isIn hc e_1) (cwX11_101 S.2.2.2.2 (rm := rmX11_isIn) rfl rfl ⟨Nat.le_of_ble_eq_true rfl, Nat.le_of_ble_eq_true rfl⟩) hB rfl hl.1 rfl (lv_room (Nat.le_of_ble_eq_true rfl)) dX11_isLetter_5 ⟨Nat.zero_le _, Nat.zero_le _⟩ (fun H locs hB => ?_)
  obtain ⟨z_2, h⟩ := gd h
  cases h
  exact gRetZ S.1 S.2.1 hr hlk hB (nzB z_2) dX11_isLetter_8
def FX11_isDigit (p0 : Int32) : Option Int32 :=
  (FX11_isIn p0 (48 : Int32) (57 : Int32)).bind fun r_1 =>
  if (r_1 ≠ 0 ∧ r_1 ≠ 1) then none else
  some r_1
abbrev rmX11_isDigit : Room := { frames := 1, cells := 0, slots := 0, locals := 22 }
set_option maxRecDepth 100000 in
set_option maxHeartbeats 4000000 in
theorem kX11_isDigit {l : Launch} {D : va_G} {cI cJ : ClassId} {KS : (Nat → Prop) → State → Prop} (hc : gC KS) {p0 : Int32} {W0 : va_W} {r : Int32} (h : FX11_isDigit p0 = some r) : gMet l yX11_isDigit qX11_isDigit rmX11_isDigit 0 0 D vwCl [(cI, .int), (cJ, .long)] KS [.int p0] W0 W0 (some (.int r)) := by
  refine gMet.of (cc := cX11_isDigit) (maxL := 1) (ret := (some .boolean)) (by decide) rfl (Nat.le_of_ble_eq_true rfl) ?_
  intro p e s m args below meth c S hr hlk hnm hK hKS hA hB ls hl
  have hl : lv_has ls 1 [(0, .int p0)] := hl
  replace S : CallFix p m c cX11_isDigit 1 s args (_ :: wsL_law) RX11 := S
  rw [FX11_isDigit] at h
  refine lv_iload_n S.1 S.2.1 dX11_isDigit_0 rfl (lv_at hl 0 rfl) ?_
  refine lv_bipush (v := (48 : Int32)) S.1 S.2.1 dX11_isDigit_1 (by decide) ?_
  refine lv_bipush (v := (57 : Int32)) S.1 S.2.1 dX11_isDigit_3 (by decide) ?_
  obtain ⟨r_1, e_1, h⟩ := bnd h
  refine mCallSI S hK hc hKS hA (kX11_isIn hc e_1) (cwX11_101 S.2.2.2.2 (rm := rmX11_isIn) rfl rfl ⟨Nat.le_of_ble_eq_true rfl, Nat.le_of_ble_eq_true rfl⟩) hB rfl hl.1 rfl (lv_room (Nat.le_of_ble_eq_true rfl)) dX11_isDigit_5 ⟨Nat.zero_le _, Nat.zero_le _⟩ (fun H locs hB => ?_)
  obtain ⟨z_2, h⟩ := gd h
  cases h
  exact gRetZ S.1 S.2.1 hr hlk hB (nzB z_2) dX11_isDigit_8
def FX11_goes  (σ : MS) : Option (Int32 × MS) :=
  if (σ.1 7) = (400 : Int32) then
    some ((0 : Int32), σ)
  else
    some ((1 : Int32), (sI σ 7 ((σ.1 7) + (1 : Int32))))
abbrev rmX11_goes : Room := { frames := 0, cells := 0, slots := 0, locals := 0 }
set_option maxRecDepth 100000 in
set_option maxHeartbeats 4000000 in
theorem kX11_goes {l : Launch} {D : va_G} {cI cJ : ClassId} {ad : Nat → Nat} {KS : (Nat → Prop) → State → Prop} (hc : gC KS)  {σ σ' : MS} {r : Int32} (h : FX11_goes  σ = some (r, σ')) : gMet l yX11_goes qX11_goes rmX11_goes 0 0 D vwCl [(cI, .int), (cJ, .long)] KS [.ref (ad 0)] (MW cI cJ ad σ) (MW cI cJ ad σ') (some (.int r)) := by
  refine gMet.of (cc := cX11_goes) (maxL := 1) (ret := (some .boolean)) (by decide) rfl (Nat.le_of_ble_eq_true rfl) ?_
  intro p e s m args below meth c S hr hlk hnm hK hKS hA hB ls hl
  have hl : lv_has ls 1 [(0, .ref (ad 0))] := hl
  replace S : CallFix p m c cX11_goes 1 s args (_ :: wsL_law) RX11 := S
  rw [FX11_goes] at h
  refine lv_aload_n S.1 S.2.1 dX11_goes_0 rfl (lv_at hl 0 rfl) ?_
  refine mg_at S hK hB wf_X11_152 rfl dX11_goes_1 ?_
  refine lv_sipush (v := (400 : Int32)) S.1 S.2.1 dX11_goes_4 (by decide) ?_
  refine lv_icmp_ne (tgt := 12) S.1 S.2.1 dX11_goes_7 (by decide) (fun c_1 => ?_) (fun c_1 => ?_)
  · replace h := (if_neg c_1).symm.trans h
    refine lv_aload_n S.1 S.2.1 dX11_goes_12 rfl (lv_at hl 0 rfl) ?_
    refine lv_dup S.1 S.2.1 dX11_goes_13 rfl ?_
    refine mg_at S hK hB wf_X11_152 rfl dX11_goes_14 ?_
    refine lv_iconst (v := (1 : Int32)) S.1 S.2.1 dX11_goes_17 (by decide) ?_
    refine lv_iadd S.1 S.2.1 dX11_goes_18 ?_
    refine mp_at S hK hB wf_X11_152 dX11_goes_19 (fun H locs hB => ?_)
    refine lv_iconst (v := (1 : Int32)) S.1 S.2.1 dX11_goes_22 (by decide) ?_
    cases h
    exact gRetZ S.1 S.2.1 hr hlk hB rfl dX11_goes_23
  · replace h := (if_pos c_1).symm.trans h
    refine lv_iconst (v := (0 : Int32)) S.1 S.2.1 dX11_goes_10 (by decide) ?_
    cases h
    exact gRetZ S.1 S.2.1 hr hlk hB rfl dX11_goes_11
def FX11_takesNumber  (σ : MS) : Option (Int32 × MS) :=
  if ((σ.1 7) < 0 ∨ 1801 ≤ (σ.1 7).toNatClampNeg) then none else
  if (σ.2.1 4 (σ.1 7).toNatClampNeg) = (2 : Int32) then
    b2 (FX11_goes σ) fun r_3 σ_3 =>
    if r_3 = 0 then
      some ((0 : Int32), σ_3)
    else
      some ((1 : Int32), σ_3)
  else
    some ((0 : Int32), σ)
abbrev rmX11_takesNumber : Room := { frames := 1, cells := 0, slots := 0, locals := 20 }
set_option maxRecDepth 100000 in
set_option maxHeartbeats 4000000 in
theorem kX11_takesNumber {l : Launch} {D : va_G} {cI cJ : ClassId} {ad : Nat → Nat} {KS : (Nat → Prop) → State → Prop} (hc : gC KS)  {σ σ' : MS} {r : Int32} (h : FX11_takesNumber  σ = some (r, σ')) : gMet l yX11_takesNumber qX11_takesNumber rmX11_takesNumber 0 0 D vwCl [(cI, .int), (cJ, .long)] KS [.ref (ad 0)] (MW cI cJ ad σ) (MW cI cJ ad σ') (some (.int r)) := by
  refine gMet.of (cc := cX11_takesNumber) (maxL := 1) (ret := (some .boolean)) (by decide) rfl (Nat.le_of_ble_eq_true rfl) ?_
  intro p e s m args below meth c S hr hlk hnm hK hKS hA hB ls hl
  have hl : lv_has ls 1 [(0, .ref (ad 0))] := hl
  replace S : CallFix p m c cX11_takesNumber 1 s args (_ :: wsL_law) RX11 := S
  rw [FX11_takesNumber] at h
  refine lv_aload_n S.1 S.2.1 dX11_takesNumber_0 rfl (lv_at hl 0 rfl) ?_
  refine mg_kinds S hK hB wf_X11_17 dX11_takesNumber_1 ?_
  refine lv_aload_n S.1 S.2.1 dX11_takesNumber_4 rfl (lv_at hl 0 rfl) ?_
  refine mg_at S hK hB wf_X11_152 rfl dX11_takesNumber_5 ?_
  obtain ⟨b_1, h⟩ := gd h
  refine ml_kinds (v := (σ.2.1 4 (σ.1 7).toNatClampNeg)) S hK hB b_1 rfl dX11_takesNumber_8 ?_
  refine lv_iconst (v := (2 : Int32)) S.1 S.2.1 dX11_takesNumber_9 (by decide) ?_
  refine lv_icmp_ne (tgt := 24) S.1 S.2.1 dX11_takesNumber_10 (by decide) (fun c_2 => ?_) (fun c_2 => ?_)
  · replace h := (if_neg c_2).symm.trans h
    refine lv_iconst (v := (0 : Int32)) S.1 S.2.1 dX11_takesNumber_24 (by decide) ?_
    cases h
    exact gRetZ S.1 S.2.1 hr hlk hB rfl dX11_takesNumber_25
  · replace h := (if_pos c_2).symm.trans h
    refine lv_aload_n S.1 S.2.1 dX11_takesNumber_13 rfl (lv_at hl 0 rfl) ?_
    obtain ⟨r_3, σ_3, e_3, h⟩ := b2s h
    refine mCallI S hK hc hKS hA (kX11_goes hc e_3) (cwX11_159 S.2.2.2.2 (rm := rmX11_goes) rfl rfl ⟨Nat.le_of_ble_eq_true rfl, Nat.le_of_ble_eq_true rfl⟩) hB rfl hl.1 rfl (lv_room (Nat.le_of_ble_eq_true rfl)) dX11_takesNumber_14 ⟨Nat.zero_le _, Nat.zero_le _⟩ (fun H locs hB => ?_)
    refine lv_if_eq (tgt := 24) S.1 S.2.1 dX11_takesNumber_17 (by decide) (fun c_4 => ?_) (fun c_4 => ?_)
    · replace h := (if_pos c_4).symm.trans h
      refine lv_iconst (v := (0 : Int32)) S.1 S.2.1 dX11_takesNumber_24 (by decide) ?_
      cases h
      exact gRetZ S.1 S.2.1 hr hlk hB rfl dX11_takesNumber_25
    · replace h := (if_neg c_4).symm.trans h
      refine lv_iconst (v := (1 : Int32)) S.1 S.2.1 dX11_takesNumber_20 (by decide) ?_
      refine lv_goto (tgt := 25) S.1 S.2.1 dX11_takesNumber_21 (by decide) ?_
      cases h
      exact gRetZ S.1 S.2.1 hr hlk hB rfl dX11_takesNumber_25
def FX11_trim (p0 : Int32) (σ : MS) : Option (Int32 × MS) :=
  (FX11_isIn p0 (0 : Int32) (σ.1 2)).bind fun r_1 =>
  if r_1 = 0 then
    b2 (FX11_no (1 : Int32) (sI σ 0 (0 : Int32))) fun r_3 σ_3 =>
    some (r_3, σ_3)
  else
    some (p0, (sI (sI σ 0 (0 : Int32)) 2 p0))
abbrev rmX11_trim : Room := { frames := 1, cells := 0, slots := 0, locals := 22 }
set_option maxRecDepth 100000 in
set_option maxHeartbeats 4000000 in
theorem kX11_trim {l : Launch} {D : va_G} {cI cJ : ClassId} {ad : Nat → Nat} {KS : (Nat → Prop) → State → Prop} (hc : gC KS) {p0 : Int32} {σ σ' : MS} {r : Int32} (h : FX11_trim p0 σ = some (r, σ')) : gMet l yX11_trim qX11_trim rmX11_trim 0 0 D vwCl [(cI, .int), (cJ, .long)] KS [.ref (ad 0), .int p0] (MW cI cJ ad σ) (MW cI cJ ad σ') (some (.int r)) := by
  refine gMet.of (cc := cX11_trim) (maxL := 2) (ret := (some .int)) (by decide) rfl (Nat.le_of_ble_eq_true rfl) ?_
  intro p e s m args below meth c S hr hlk hnm hK hKS hA hB ls hl
  have hl : lv_has ls 2 [(0, .ref (ad 0)), (1, .int p0)] := hl
  replace S : CallFix p m c cX11_trim 2 s args (_ :: wsL_law) RX11 := S
  rw [FX11_trim] at h
  refine lv_aload_n S.1 S.2.1 dX11_trim_0 rfl (lv_at hl 0 rfl) ?_
  refine lv_iconst (v := (0 : Int32)) S.1 S.2.1 dX11_trim_1 (by decide) ?_
  refine mp_thrown S hK hB wf_X11_91 dX11_trim_2 (fun H locs hB => ?_)
  refine lv_iload_n S.1 S.2.1 dX11_trim_5 rfl (lv_at hl 1 rfl) ?_
  refine lv_iconst (v := (0 : Int32)) S.1 S.2.1 dX11_trim_6 (by decide) ?_
  refine lv_aload_n S.1 S.2.1 dX11_trim_7 rfl (lv_at hl 0 rfl) ?_
  refine mg_length (v := (σ.1 2)) S hK hB wf_X11_94 rfl dX11_trim_8 ?_
  obtain ⟨r_1, e_1, h⟩ := bnd h
  refine mCallSI S hK hc hKS hA (kX11_isIn hc e_1) (cwX11_101 S.2.2.2.2 (rm := rmX11_isIn) rfl rfl ⟨Nat.le_of_ble_eq_true rfl, Nat.le_of_ble_eq_true rfl⟩) hB rfl hl.1 rfl (lv_room (Nat.le_of_ble_eq_true rfl)) dX11_trim_11 ⟨Nat.zero_le _, Nat.zero_le _⟩ (fun H locs hB => ?_)
  refine lv_if_ne (tgt := 23) S.1 S.2.1 dX11_trim_14 (by decide) (fun c_2 => ?_) (fun c_2 => ?_)
  · replace h := (if_neg c_2).symm.trans h
    refine lv_aload_n S.1 S.2.1 dX11_trim_23 rfl (lv_at hl 0 rfl) ?_
    refine lv_iload_n S.1 S.2.1 dX11_trim_24 rfl (lv_at hl 1 rfl) ?_
    refine mp_length S hK hB wf_X11_94 dX11_trim_25 (fun H locs hB => ?_)
    refine lv_iload_n S.1 S.2.1 dX11_trim_28 rfl (lv_at hl 1 rfl) ?_
    cases h
    exact gRetI S.1 S.2.1 hr hlk hB dX11_trim_29
  · replace h := (if_pos c_2).symm.trans h
    refine lv_aload_n S.1 S.2.1 dX11_trim_17 rfl (lv_at hl 0 rfl) ?_
    refine lv_iconst (v := (1 : Int32)) S.1 S.2.1 dX11_trim_18 (by decide) ?_
    obtain ⟨r_3, σ_3, e_3, h⟩ := b2s h
    refine mCallI S hK hc hKS hA (kX11_no hc e_3) (cwX11_97 S.2.2.2.2 (rm := rmX11_no) rfl rfl ⟨Nat.le_of_ble_eq_true rfl, Nat.le_of_ble_eq_true rfl⟩) hB rfl hl.1 rfl (lv_room (Nat.le_of_ble_eq_true rfl)) dX11_trim_19 ⟨Nat.zero_le _, Nat.zero_le _⟩ (fun H locs hB => ?_)
    cases h
    exact gRetI S.1 S.2.1 hr hlk hB dX11_trim_22
def FX11_wrong (p0 : Int32) (p1 : Int32) (σ : MS) : Option (Int32 × MS) :=
  if (p1 < 0 ∨ 1801 ≤ p1.toNatClampNeg) then none else
  some (p0, (sI σ 3 (σ.2.1 5 p1.toNatClampNeg)))
abbrev rmX11_wrong : Room := { frames := 0, cells := 0, slots := 0, locals := 0 }
set_option maxRecDepth 100000 in
set_option maxHeartbeats 4000000 in
theorem kX11_wrong {l : Launch} {D : va_G} {cI cJ : ClassId} {ad : Nat → Nat} {KS : (Nat → Prop) → State → Prop} (hc : gC KS) {p0 : Int32} {p1 : Int32} {σ σ' : MS} {r : Int32} (h : FX11_wrong p0 p1 σ = some (r, σ')) : gMet l yX11_wrong qX11_wrong rmX11_wrong 0 0 D vwCl [(cI, .int), (cJ, .long)] KS [.ref (ad 0), .int p0, .int p1] (MW cI cJ ad σ) (MW cI cJ ad σ') (some (.int r)) := by
  refine gMet.of (cc := cX11_wrong) (maxL := 3) (ret := (some .int)) (by decide) rfl (Nat.le_of_ble_eq_true rfl) ?_
  intro p e s m args below meth c S hr hlk hnm hK hKS hA hB ls hl
  have hl : lv_has ls 3 [(0, .ref (ad 0)), (1, .int p0), (2, .int p1)] := hl
  replace S : CallFix p m c cX11_wrong 3 s args (_ :: wsL_law) RX11 := S
  rw [FX11_wrong] at h
  refine lv_aload_n S.1 S.2.1 dX11_wrong_0 rfl (lv_at hl 0 rfl) ?_
  refine lv_aload_n S.1 S.2.1 dX11_wrong_1 rfl (lv_at hl 0 rfl) ?_
  refine mg_froms S hK hB wf_X11_20 dX11_wrong_2 ?_
  refine lv_iload_n S.1 S.2.1 dX11_wrong_5 rfl (lv_at hl 2 rfl) ?_
  obtain ⟨b_1, h⟩ := gd h
  refine ml_froms (v := (σ.2.1 5 p1.toNatClampNeg)) S hK hB b_1 rfl dX11_wrong_6 ?_
  refine mp_errorAt S hK hB wf_X11_13 dX11_wrong_7 (fun H locs hB => ?_)
  refine lv_iload_n S.1 S.2.1 dX11_wrong_10 rfl (lv_at hl 1 rfl) ?_
  cases h
  exact gRetI S.1 S.2.1 hr hlk hB dX11_wrong_11
def FX11_numberOf_9 (L : Nat)  : Nat → Int32 → Int32 → Int32 → MS → Option (Int32 × MS)
  | 0, _, _, _, _ => none
  | n+1, x1, x2, x3, σ1 =>
    if (x1 < 0 ∨ 1801 ≤ x1.toNatClampNeg) then none else
    if (σ1.2.1 6 x1.toNatClampNeg) ≤ x3 then
      some (x2, σ1)
    else
      if (x3 < 0 ∨ 1800 ≤ x3.toNatClampNeg) then none else
      (FX11_numberOf_9 L n) x1 ((((10 : Int32) * x2) + (σ1.2.1 1 x3.toNatClampNeg)) - (48 : Int32)) (x3 + (1 : Int32)) σ1
def FX11_numberOf (L : Nat) (p0 : Int32) (σ : MS) : Option (Int32 × MS) :=
  if (p0 < 0 ∨ 1801 ≤ p0.toNatClampNeg) then none else
  FX11_numberOf_9 L L p0 (0 : Int32) (σ.2.1 5 p0.toNatClampNeg) σ
abbrev rmX11_numberOf : Room := { frames := 0, cells := 0, slots := 0, locals := 0 }
set_option maxRecDepth 100000 in
set_option maxHeartbeats 4000000 in
theorem kX11_numberOf {l : Launch} {D : va_G} {cI cJ : ClassId} {ad : Nat → Nat} {KS : (Nat → Prop) → State → Prop} {L : Nat} (hc : gC KS) {p0 : Int32} {σ σ' : MS} {r : Int32} (h : FX11_numberOf L p0 σ = some (r, σ')) : gMet l yX11_numberOf qX11_numberOf rmX11_numberOf 0 0 D vwCl [(cI, .int), (cJ, .long)] KS [.ref (ad 0), .int p0] (MW cI cJ ad σ) (MW cI cJ ad σ') (some (.int r)) := by
  refine gMet.of (cc := cX11_numberOf) (maxL := 4) (ret := (some .int)) (by decide) rfl (Nat.le_of_ble_eq_true rfl) ?_
  intro p e s m args below meth c S hr hlk hnm hK hKS hA hB ls hl
  have hl : lv_has ls 4 [(0, .ref (ad 0)), (1, .int p0)] := hl
  replace S : CallFix p m c cX11_numberOf 4 s args (_ :: wsL_law) RX11 := S
  rw [FX11_numberOf] at h
  have P9 : ∀  (n : Nat), ∀ (x1 : Int32) (x2 : Int32) (x3 : Int32) (σ1 : MS) (H : Heap) (locs : List Loc) (ls : Array Slot), FX11_numberOf_9 L n x1 x2 x3 σ1 = some (r, σ') → gB D vwCl (va_A (MW cI cJ ad σ) s.heap.size) s.heap (MW cI cJ ad σ1) [] H locs → lv_has ls 4 [(0, .ref (ad 0)), (1, .int x1), (2, .int x2), (3, .int x3)] → W p l e rmX11_numberOf s m args below meth c H locs 0 0 (MQ below (gQ D vwCl (MW cI cJ ad σ) (MW cI cJ ad σ') (some (.int r)) s.heap.size) args s 0 0 (va_A (MW cI cJ ad σ) s.heap.size)) (F0 m 9 ls []) := by
    intro n
    induction n with
    | zero => intro x1 x2 x3 σ1 H locs ls h; simp only [FX11_numberOf_9] at h; cases h
    | succ n ih =>
      intro x1 x2 x3 σ1 H locs ls h hB hl
      rw [FX11_numberOf_9] at h
      refine lv_iload_n S.1 S.2.1 dX11_numberOf_9 rfl (lv_at hl 3 rfl) ?_
      refine lv_aload_n S.1 S.2.1 dX11_numberOf_10 rfl (lv_at hl 0 rfl) ?_
      refine mg_ends S hK hB wf_X11_23 dX11_numberOf_11 ?_
      refine lv_iload_n S.1 S.2.1 dX11_numberOf_14 rfl (lv_at hl 1 rfl) ?_
      obtain ⟨b_2, h⟩ := gd h
      refine ml_ends (v := (σ1.2.1 6 x1.toNatClampNeg)) S hK hB b_2 rfl dX11_numberOf_15 ?_
      refine lv_icmp_ge (tgt := 40) S.1 S.2.1 dX11_numberOf_16 (by decide) (fun c_3 => ?_) (fun c_3 => ?_)
      · replace h := (if_pos c_3).symm.trans h
        refine lv_iload_n S.1 S.2.1 dX11_numberOf_40 rfl (lv_at hl 2 rfl) ?_
        cases h
        exact gRetI S.1 S.2.1 hr hlk hB dX11_numberOf_41
      · replace h := (if_neg c_3).symm.trans h
        refine lv_bipush (v := (10 : Int32)) S.1 S.2.1 dX11_numberOf_19 (by decide) ?_
        refine lv_iload_n S.1 S.2.1 dX11_numberOf_21 rfl (lv_at hl 2 rfl) ?_
        refine lv_imul S.1 S.2.1 dX11_numberOf_22 ?_
        refine lv_aload_n S.1 S.2.1 dX11_numberOf_23 rfl (lv_at hl 0 rfl) ?_
        refine mg_tape S hK hB wf_X11_9 dX11_numberOf_24 ?_
        refine lv_iload_n S.1 S.2.1 dX11_numberOf_27 rfl (lv_at hl 3 rfl) ?_
        obtain ⟨b_4, h⟩ := gd h
        refine ml_tape (v := (σ1.2.1 1 x3.toNatClampNeg)) S hK hB b_4 rfl dX11_numberOf_28 ?_
        refine lv_iadd S.1 S.2.1 dX11_numberOf_29 ?_
        refine lv_bipush (v := (48 : Int32)) S.1 S.2.1 dX11_numberOf_30 (by decide) ?_
        refine lv_isub S.1 S.2.1 dX11_numberOf_32 ?_
        refine lv_istore_n (lv' := [(2, .int ((((10 : Int32) * x2) + (σ1.2.1 1 x3.toNatClampNeg)) - (48 : Int32))), (0, .ref (ad 0)), (1, .int x1), (3, .int x3)]) S.1 S.2.1 dX11_numberOf_33 rfl hl (by decide) rfl (fun ls hl => ?_)
        refine lv_iinc (v := (x3 + (1 : Int32))) (lv' := [(3, .int (x3 + (1 : Int32))), (2, .int ((((10 : Int32) * x2) + (σ1.2.1 1 x3.toNatClampNeg)) - (48 : Int32))), (0, .ref (ad 0)), (1, .int x1)]) S.1 S.2.1 dX11_numberOf_34 hl (k := 3) rfl rfl (by decide) rfl (fun ls hl => ?_)
        refine lv_goto (tgt := 9) S.1 S.2.1 dX11_numberOf_37 (by decide) ?_
        exact ih _ _ _ _ _ _ _ h hB (lv_sub hl [2, 3, 1, 0] rfl)
  refine lv_iconst (v := (0 : Int32)) S.1 S.2.1 dX11_numberOf_0 (by decide) ?_
  refine lv_istore_n (lv' := [(2, .int (0 : Int32)), (0, .ref (ad 0)), (1, .int p0)]) S.1 S.2.1 dX11_numberOf_1 rfl hl (by decide) rfl (fun ls hl => ?_)
  refine lv_aload_n S.1 S.2.1 dX11_numberOf_2 rfl (lv_at hl 1 rfl) ?_
  refine mg_froms S hK hB wf_X11_20 dX11_numberOf_3 ?_
  refine lv_iload_n S.1 S.2.1 dX11_numberOf_6 rfl (lv_at hl 2 rfl) ?_
  obtain ⟨b_1, h⟩ := gd h
  refine ml_froms (v := (σ.2.1 5 p0.toNatClampNeg)) S hK hB b_1 rfl dX11_numberOf_7 ?_
  refine lv_istore_n (lv' := [(3, .int (σ.2.1 5 p0.toNatClampNeg)), (2, .int (0 : Int32)), (0, .ref (ad 0)), (1, .int p0)]) S.1 S.2.1 dX11_numberOf_8 rfl hl (by decide) rfl (fun ls hl => ?_)
  exact P9  L _ _ _ _ _ _ _ h hB (lv_sub hl [2, 3, 1, 0] rfl)
def FX11_nameOf_10 (L : Nat)  : Nat → Int32 → Int64 → Int32 → MS → Option (Int64 × MS)
  | 0, _, _, _, _ => none
  | n+1, x1, x2, x4, σ1 =>
    if (x1 < 0 ∨ 1801 ≤ x1.toNatClampNeg) then none else
    if (σ1.2.1 6 x1.toNatClampNeg) ≤ x4 then
      some (x2, σ1)
    else
      if (x4 < 0 ∨ 1800 ≤ x4.toNatClampNeg) then none else
      (FX11_isDigit (σ1.2.1 1 x4.toNatClampNeg)).bind fun r_5 =>
      if r_5 = 0 then
        if (x4 < 0 ∨ 1800 ≤ x4.toNatClampNeg) then none else
        (FX11_nameOf_10 L n) x1 (((37 : Int64) * x2) + (((σ1.2.1 1 x4.toNatClampNeg) - (86 : Int32)).toInt64)) (x4 + (1 : Int32)) σ1
      else
        if (x4 < 0 ∨ 1800 ≤ x4.toNatClampNeg) then none else
        (FX11_nameOf_10 L n) x1 (((37 : Int64) * x2) + (((σ1.2.1 1 x4.toNatClampNeg) - (47 : Int32)).toInt64)) (x4 + (1 : Int32)) σ1
def FX11_nameOf (L : Nat) (p0 : Int32) (σ : MS) : Option (Int64 × MS) :=
  if (p0 < 0 ∨ 1801 ≤ p0.toNatClampNeg) then none else
  FX11_nameOf_10 L L p0 (0 : Int64) (σ.2.1 5 p0.toNatClampNeg) σ
abbrev rmX11_nameOf : Room := { frames := 2, cells := 0, slots := 0, locals := 42 }
set_option maxRecDepth 100000 in
set_option maxHeartbeats 4000000 in
theorem kX11_nameOf {l : Launch} {D : va_G} {cI cJ : ClassId} {ad : Nat → Nat} {KS : (Nat → Prop) → State → Prop} {L : Nat} (hc : gC KS) {p0 : Int32} {σ σ' : MS} {r : Int64} (h : FX11_nameOf L p0 σ = some (r, σ')) : gMet l yX11_nameOf qX11_nameOf rmX11_nameOf 0 0 D vwCl [(cI, .int), (cJ, .long)] KS [.ref (ad 0), .int p0] (MW cI cJ ad σ) (MW cI cJ ad σ') (some (.long r)) := by
  refine gMet.of (cc := cX11_nameOf) (maxL := 5) (ret := (some .long)) (by decide) rfl (Nat.le_of_ble_eq_true rfl) ?_
  intro p e s m args below meth c S hr hlk hnm hK hKS hA hB ls hl
  have hl : lv_has ls 5 [(0, .ref (ad 0)), (1, .int p0)] := hl
  replace S : CallFix p m c cX11_nameOf 5 s args (_ :: wsL_law) RX11 := S
  rw [FX11_nameOf] at h
  have P10 : ∀  (n : Nat), ∀ (x1 : Int32) (x2 : Int64) (x4 : Int32) (σ1 : MS) (H : Heap) (locs : List Loc) (ls : Array Slot), FX11_nameOf_10 L n x1 x2 x4 σ1 = some (r, σ') → gB D vwCl (va_A (MW cI cJ ad σ) s.heap.size) s.heap (MW cI cJ ad σ1) [] H locs → lv_has ls 5 [(0, .ref (ad 0)), (1, .int x1), (2, .long x2), (4, .int x4)] → W p l e rmX11_nameOf s m args below meth c H locs 0 0 (MQ below (gQ D vwCl (MW cI cJ ad σ) (MW cI cJ ad σ') (some (.long r)) s.heap.size) args s 0 0 (va_A (MW cI cJ ad σ) s.heap.size)) (F0 m 10 ls []) := by
    intro n
    induction n with
    | zero => intro x1 x2 x4 σ1 H locs ls h; simp only [FX11_nameOf_10] at h; cases h
    | succ n ih =>
      intro x1 x2 x4 σ1 H locs ls h hB hl
      rw [FX11_nameOf_10] at h
      refine lv_iload S.1 S.2.1 dX11_nameOf_10 (lv_at hl 3 rfl) ?_
      refine lv_aload_n S.1 S.2.1 dX11_nameOf_12 rfl (lv_at hl 0 rfl) ?_
      refine mg_ends S hK hB wf_X11_23 dX11_nameOf_13 ?_
      refine lv_iload_n S.1 S.2.1 dX11_nameOf_16 rfl (lv_at hl 1 rfl) ?_
      obtain ⟨b_2, h⟩ := gd h
      refine ml_ends (v := (σ1.2.1 6 x1.toNatClampNeg)) S hK hB b_2 rfl dX11_nameOf_17 ?_
      refine lv_icmp_ge (tgt := 71) S.1 S.2.1 dX11_nameOf_18 (by decide) (fun c_3 => ?_) (fun c_3 => ?_)
      · replace h := (if_pos c_3).symm.trans h
        refine lv_lload_n S.1 S.2.1 dX11_nameOf_71 rfl (lv_at hl 2 rfl) ?_
        cases h
        exact gRetL S.1 S.2.1 hr hlk hB dX11_nameOf_72
      · replace h := (if_neg c_3).symm.trans h
        refine lv_ldc2 (v := 37) S.1 S.2.1 S.2.2.2.1 (S.2.2.2.2 _ (List.mem_cons_of_mem _ wk_X11_150)) dX11_nameOf_21 ?_
        refine lv_lload_n S.1 S.2.1 dX11_nameOf_24 rfl (lv_at hl 2 rfl) ?_
        refine lv_lmul S.1 S.2.1 dX11_nameOf_25 ?_
        refine lv_aload_n S.1 S.2.1 dX11_nameOf_26 rfl (lv_at hl 0 rfl) ?_
        refine mg_tape S hK hB wf_X11_9 dX11_nameOf_27 ?_
        refine lv_iload S.1 S.2.1 dX11_nameOf_30 (lv_at hl 3 rfl) ?_
        obtain ⟨b_4, h⟩ := gd h
        refine ml_tape (v := (σ1.2.1 1 x4.toNatClampNeg)) S hK hB b_4 rfl dX11_nameOf_32 ?_
        obtain ⟨r_5, e_5, h⟩ := bnd h
        refine mCallSI S hK hc hKS hA (kX11_isDigit hc e_5) (cwX11_119 S.2.2.2.2 (rm := rmX11_isDigit) rfl rfl ⟨Nat.le_of_ble_eq_true rfl, Nat.le_of_ble_eq_true rfl⟩) hB rfl hl.1 rfl (lv_room (Nat.le_of_ble_eq_true rfl)) dX11_nameOf_33 ⟨Nat.zero_le _, Nat.zero_le _⟩ (fun H locs hB => ?_)
        refine lv_if_eq (tgt := 52) S.1 S.2.1 dX11_nameOf_36 (by decide) (fun c_6 => ?_) (fun c_6 => ?_)
        · replace h := (if_pos c_6).symm.trans h
          refine lv_aload_n S.1 S.2.1 dX11_nameOf_52 rfl (lv_at hl 0 rfl) ?_
          refine mg_tape S hK hB wf_X11_9 dX11_nameOf_53 ?_
          refine lv_iload S.1 S.2.1 dX11_nameOf_56 (lv_at hl 3 rfl) ?_
          obtain ⟨b_7, h⟩ := gd h
          refine ml_tape (v := (σ1.2.1 1 x4.toNatClampNeg)) S hK hB b_7 rfl dX11_nameOf_58 ?_
          refine lv_bipush (v := (86 : Int32)) S.1 S.2.1 dX11_nameOf_59 (by decide) ?_
          refine lv_isub S.1 S.2.1 dX11_nameOf_61 ?_
          refine lv_i2l (v := (((σ1.2.1 1 x4.toNatClampNeg) - (86 : Int32)).toInt64)) S.1 S.2.1 dX11_nameOf_62 rfl ?_
          refine lv_ladd S.1 S.2.1 dX11_nameOf_63 ?_
          refine lv_lstore_n (lv' := [(2, .long (((37 : Int64) * x2) + (((σ1.2.1 1 x4.toNatClampNeg) - (86 : Int32)).toInt64))), (0, .ref (ad 0)), (1, .int x1), (4, .int x4)]) S.1 S.2.1 dX11_nameOf_64 rfl hl (by decide) rfl (fun ls hl => ?_)
          refine lv_iinc (v := (x4 + (1 : Int32))) (lv' := [(4, .int (x4 + (1 : Int32))), (2, .long (((37 : Int64) * x2) + (((σ1.2.1 1 x4.toNatClampNeg) - (86 : Int32)).toInt64))), (0, .ref (ad 0)), (1, .int x1)]) S.1 S.2.1 dX11_nameOf_65 hl (k := 3) rfl rfl (by decide) rfl (fun ls hl => ?_)
          refine lv_goto (tgt := 10) S.1 S.2.1 dX11_nameOf_68 (by decide) ?_
          exact ih _ _ _ _ _ _ _ h hB (lv_sub hl [2, 3, 1, 0] rfl)
        · replace h := (if_neg c_6).symm.trans h
          refine lv_aload_n S.1 S.2.1 dX11_nameOf_39 rfl (lv_at hl 0 rfl) ?_
          refine mg_tape S hK hB wf_X11_9 dX11_nameOf_40 ?_
          refine lv_iload S.1 S.2.1 dX11_nameOf_43 (lv_at hl 3 rfl) ?_
          obtain ⟨b_8, h⟩ := gd h
          refine ml_tape (v := (σ1.2.1 1 x4.toNatClampNeg)) S hK hB b_8 rfl dX11_nameOf_45 ?_
          refine lv_bipush (v := (47 : Int32)) S.1 S.2.1 dX11_nameOf_46 (by decide) ?_
          refine lv_isub S.1 S.2.1 dX11_nameOf_48 ?_
          refine lv_goto (tgt := 62) S.1 S.2.1 dX11_nameOf_49 (by decide) ?_
          refine lv_i2l (v := (((σ1.2.1 1 x4.toNatClampNeg) - (47 : Int32)).toInt64)) S.1 S.2.1 dX11_nameOf_62 rfl ?_
          refine lv_ladd S.1 S.2.1 dX11_nameOf_63 ?_
          refine lv_lstore_n (lv' := [(2, .long (((37 : Int64) * x2) + (((σ1.2.1 1 x4.toNatClampNeg) - (47 : Int32)).toInt64))), (0, .ref (ad 0)), (1, .int x1), (4, .int x4)]) S.1 S.2.1 dX11_nameOf_64 rfl hl (by decide) rfl (fun ls hl => ?_)
          refine lv_iinc (v := (x4 + (1 : Int32))) (lv' := [(4, .int (x4 + (1 : Int32))), (2, .long (((37 : Int64) * x2) + (((σ1.2.1 1 x4.toNatClampNeg) - (47 : Int32)).toInt64))), (0, .ref (ad 0)), (1, .int x1)]) S.1 S.2.1 dX11_nameOf_65 hl (k := 3) rfl rfl (by decide) rfl (fun ls hl => ?_)
          refine lv_goto (tgt := 10) S.1 S.2.1 dX11_nameOf_68 (by decide) ?_
          exact ih _ _ _ _ _ _ _ h hB (lv_sub hl [2, 3, 1, 0] rfl)
  refine lv_lconst (v := 0) S.1 S.2.1 dX11_nameOf_0 (by decide) ?_
  refine lv_lstore_n (lv' := [(2, .long (0 : Int64)), (0, .ref (ad 0)), (1, .int p0)]) S.1 S.2.1 dX11_nameOf_1 rfl hl (by decide) rfl (fun ls hl => ?_)
  refine lv_aload_n S.1 S.2.1 dX11_nameOf_2 rfl (lv_at hl 1 rfl) ?_
  refine mg_froms S hK hB wf_X11_20 dX11_nameOf_3 ?_
  refine lv_iload_n S.1 S.2.1 dX11_nameOf_6 rfl (lv_at hl 2 rfl) ?_
  obtain ⟨b_1, h⟩ := gd h
  refine ml_froms (v := (σ.2.1 5 p0.toNatClampNeg)) S hK hB b_1 rfl dX11_nameOf_7 ?_
  refine lv_istore (lv' := [(4, .int (σ.2.1 5 p0.toNatClampNeg)), (2, .long (0 : Int64)), (0, .ref (ad 0)), (1, .int p0)]) S.1 S.2.1 dX11_nameOf_8 hl (by decide) rfl (fun ls hl => ?_)
  exact P10  L _ _ _ _ _ _ _ h hB (lv_sub hl [2, 3, 1, 0] rfl)
def FX11_at (p0 : Int32) (p1 : Int32) (σ : MS) : Option (Int64 × MS) :=
  if ((((120 : Int32) * p0) + p1) < 0 ∨ 144360 ≤ (((120 : Int32) * p0) + p1).toNatClampNeg) then none else
  some ((σ.2.2 16 (((120 : Int32) * p0) + p1).toNatClampNeg), σ)
abbrev rmX11_at : Room := { frames := 0, cells := 0, slots := 0, locals := 0 }
set_option maxRecDepth 100000 in
set_option maxHeartbeats 4000000 in
theorem kX11_at {l : Launch} {D : va_G} {cI cJ : ClassId} {ad : Nat → Nat} {KS : (Nat → Prop) → State → Prop} (hc : gC KS) {p0 : Int32} {p1 : Int32} {σ σ' : MS} {r : Int64} (h : FX11_at p0 p1 σ = some (r, σ')) : gMet l yX11_at qX11_at rmX11_at 0 0 D vwCl [(cI, .int), (cJ, .long)] KS [.ref (ad 0), .int p0, .int p1] (MW cI cJ ad σ) (MW cI cJ ad σ') (some (.long r)) := by
  refine gMet.of (cc := cX11_at) (maxL := 3) (ret := (some .long)) (by decide) rfl (Nat.le_of_ble_eq_true rfl) ?_
  intro p e s m args below meth c S hr hlk hnm hK hKS hA hB ls hl
  have hl : lv_has ls 3 [(0, .ref (ad 0)), (1, .int p0), (2, .int p1)] := hl
  replace S : CallFix p m c cX11_at 3 s args (_ :: wsL_law) RX11 := S
  rw [FX11_at] at h
  refine lv_aload_n S.1 S.2.1 dX11_at_0 rfl (lv_at hl 0 rfl) ?_
  refine mg_table S hK hB wf_X11_48 dX11_at_1 ?_
  refine lv_bipush (v := (120 : Int32)) S.1 S.2.1 dX11_at_4 (by decide) ?_
  refine lv_iload_n S.1 S.2.1 dX11_at_6 rfl (lv_at hl 1 rfl) ?_
  refine lv_imul S.1 S.2.1 dX11_at_7 ?_
  refine lv_iload_n S.1 S.2.1 dX11_at_8 rfl (lv_at hl 2 rfl) ?_
  refine lv_iadd S.1 S.2.1 dX11_at_9 ?_
  obtain ⟨b_1, h⟩ := gd h
  refine ml_table (v := (σ.2.2 16 (((120 : Int32) * p0) + p1).toNatClampNeg)) S hK hB b_1 rfl dX11_at_10 ?_
  cases h
  exact gRetL S.1 S.2.1 hr hlk hB dX11_at_11
def FX11_holds (p0 : Int32) (p1 : Int32) (σ : MS) : Option (Int32 × MS) :=
  b2 (FX11_at p0 p1 σ) fun r_1 σ_1 =>
  if r_1 = (0 : Int64) then
    some ((0 : Int32), σ_1)
  else
    some ((1 : Int32), σ_1)
abbrev rmX11_holds : Room := { frames := 1, cells := 0, slots := 0, locals := 22 }
set_option maxRecDepth 100000 in
set_option maxHeartbeats 4000000 in
theorem kX11_holds {l : Launch} {D : va_G} {cI cJ : ClassId} {ad : Nat → Nat} {KS : (Nat → Prop) → State → Prop} (hc : gC KS) {p0 : Int32} {p1 : Int32} {σ σ' : MS} {r : Int32} (h : FX11_holds p0 p1 σ = some (r, σ')) : gMet l yX11_holds qX11_holds rmX11_holds 0 0 D vwCl [(cI, .int), (cJ, .long)] KS [.ref (ad 0), .int p0, .int p1] (MW cI cJ ad σ) (MW cI cJ ad σ') (some (.int r)) := by
  refine gMet.of (cc := cX11_holds) (maxL := 3) (ret := (some .boolean)) (by decide) rfl (Nat.le_of_ble_eq_true rfl) ?_
  intro p e s m args below meth c S hr hlk hnm hK hKS hA hB ls hl
  have hl : lv_has ls 3 [(0, .ref (ad 0)), (1, .int p0), (2, .int p1)] := hl
  replace S : CallFix p m c cX11_holds 3 s args (_ :: wsL_law) RX11 := S
  rw [FX11_holds] at h
  refine lv_aload_n S.1 S.2.1 dX11_holds_0 rfl (lv_at hl 0 rfl) ?_
  refine lv_iload_n S.1 S.2.1 dX11_holds_1 rfl (lv_at hl 1 rfl) ?_
  refine lv_iload_n S.1 S.2.1 dX11_holds_2 rfl (lv_at hl 2 rfl) ?_
  obtain ⟨r_1, σ_1, e_1, h⟩ := b2s h
  refine mCallL S hK hc hKS hA (kX11_at hc e_1) (cwX11_393 S.2.2.2.2 (rm := rmX11_at) rfl rfl ⟨Nat.le_of_ble_eq_true rfl, Nat.le_of_ble_eq_true rfl⟩) hB rfl hl.1 rfl (lv_room (Nat.le_of_ble_eq_true rfl)) dX11_holds_3 ⟨Nat.zero_le _, Nat.zero_le _⟩ (fun H locs hB => ?_)
  refine lv_lconst (v := 0) S.1 S.2.1 dX11_holds_6 (by decide) ?_
  refine W.lcmp S.1 S.2.1 dX11_holds_7 ?_
  refine lv_if_eq (tgt := 15) S.1 S.2.1 dX11_holds_8 (by decide) (fun c_2 => ?_) (fun c_2 => ?_)
  · replace c_2 := lc_eq.mp c_2
    replace h := (if_pos c_2).symm.trans h
    refine lv_iconst (v := (0 : Int32)) S.1 S.2.1 dX11_holds_15 (by decide) ?_
    cases h
    exact gRetZ S.1 S.2.1 hr hlk hB rfl dX11_holds_16
  · replace c_2 := (not_congr lc_eq).mp c_2
    replace h := (if_neg c_2).symm.trans h
    refine lv_iconst (v := (1 : Int32)) S.1 S.2.1 dX11_holds_11 (by decide) ?_
    refine lv_goto (tgt := 16) S.1 S.2.1 dX11_holds_12 (by decide) ?_
    cases h
    exact gRetZ S.1 S.2.1 hr hlk hB rfl dX11_holds_16
def FX11_isWithin (p0 : Int32) (p1 : Int32) (p2 : Int32) (σ : MS) : Option (Int32 × MS) :=
  if (p0 < 0 ∨ 1203 ≤ p0.toNatClampNeg) then none else
  if (σ.2.1 14 p0.toNatClampNeg) = (-1 : Int32) then
    some ((1 : Int32), σ)
  else
    if (p2 < 0 ∨ 120 ≤ p2.toNatClampNeg) then none else
    if (p1 < 0 ∨ 120 ≤ p1.toNatClampNeg) then none else
    if (p0 < 0 ∨ 1203 ≤ p0.toNatClampNeg) then none else
    if (p0 < 0 ∨ 1203 ≤ p0.toNatClampNeg) then none else
    (FX11_isIn ((σ.2.1 30 p2.toNatClampNeg) - (σ.2.1 30 p1.toNatClampNeg)) (σ.2.1 13 p0.toNatClampNeg) (σ.2.1 14 p0.toNatClampNeg)).bind fun r_7 =>
    if r_7 = 0 then
      some ((0 : Int32), σ)
    else
      some ((1 : Int32), σ)
abbrev rmX11_isWithin : Room := { frames := 1, cells := 0, slots := 0, locals := 22 }
set_option maxRecDepth 100000 in
set_option maxHeartbeats 4000000 in
theorem kX11_isWithin {l : Launch} {D : va_G} {cI cJ : ClassId} {ad : Nat → Nat} {KS : (Nat → Prop) → State → Prop} (hc : gC KS) {p0 : Int32} {p1 : Int32} {p2 : Int32} {σ σ' : MS} {r : Int32} (h : FX11_isWithin p0 p1 p2 σ = some (r, σ')) : gMet l yX11_isWithin qX11_isWithin rmX11_isWithin 0 0 D vwCl [(cI, .int), (cJ, .long)] KS [.ref (ad 0), .int p0, .int p1, .int p2] (MW cI cJ ad σ) (MW cI cJ ad σ') (some (.int r)) := by
  refine gMet.of (cc := cX11_isWithin) (maxL := 4) (ret := (some .boolean)) (by decide) rfl (Nat.le_of_ble_eq_true rfl) ?_
  intro p e s m args below meth c S hr hlk hnm hK hKS hA hB ls hl
  have hl : lv_has ls 4 [(0, .ref (ad 0)), (1, .int p0), (2, .int p1), (3, .int p2)] := hl
  replace S : CallFix p m c cX11_isWithin 4 s args (_ :: wsL_law) RX11 := S
  rw [FX11_isWithin] at h
  refine lv_aload_n S.1 S.2.1 dX11_isWithin_0 rfl (lv_at hl 0 rfl) ?_
  refine mg_high S hK hB wf_X11_41 dX11_isWithin_1 ?_
  refine lv_iload_n S.1 S.2.1 dX11_isWithin_4 rfl (lv_at hl 1 rfl) ?_
  obtain ⟨b_1, h⟩ := gd h
  refine ml_high (v := (σ.2.1 14 p0.toNatClampNeg)) S hK hB b_1 rfl dX11_isWithin_5 ?_
  refine lv_iconst (v := (-1 : Int32)) S.1 S.2.1 dX11_isWithin_6 (by decide) ?_
  refine lv_icmp_eq (tgt := 41) S.1 S.2.1 dX11_isWithin_7 (by decide) (fun c_2 => ?_) (fun c_2 => ?_)
  · replace h := (if_pos c_2).symm.trans h
    refine lv_iconst (v := (1 : Int32)) S.1 S.2.1 dX11_isWithin_41 (by decide) ?_
    refine lv_goto (tgt := 46) S.1 S.2.1 dX11_isWithin_42 (by decide) ?_
    cases h
    exact gRetZ S.1 S.2.1 hr hlk hB rfl dX11_isWithin_46
  · replace h := (if_neg c_2).symm.trans h
    refine lv_aload_n S.1 S.2.1 dX11_isWithin_10 rfl (lv_at hl 0 rfl) ?_
    refine mg_times S hK hB wf_X11_76 dX11_isWithin_11 ?_
    refine lv_iload_n S.1 S.2.1 dX11_isWithin_14 rfl (lv_at hl 3 rfl) ?_
    obtain ⟨b_3, h⟩ := gd h
    refine ml_times (v := (σ.2.1 30 p2.toNatClampNeg)) S hK hB b_3 rfl dX11_isWithin_15 ?_
    refine lv_aload_n S.1 S.2.1 dX11_isWithin_16 rfl (lv_at hl 0 rfl) ?_
    refine mg_times S hK hB wf_X11_76 dX11_isWithin_17 ?_
    refine lv_iload_n S.1 S.2.1 dX11_isWithin_20 rfl (lv_at hl 2 rfl) ?_
    obtain ⟨b_4, h⟩ := gd h
    refine ml_times (v := (σ.2.1 30 p1.toNatClampNeg)) S hK hB b_4 rfl dX11_isWithin_21 ?_
    refine lv_isub S.1 S.2.1 dX11_isWithin_22 ?_
    refine lv_aload_n S.1 S.2.1 dX11_isWithin_23 rfl (lv_at hl 0 rfl) ?_
    refine mg_low S hK hB wf_X11_38 dX11_isWithin_24 ?_
    refine lv_iload_n S.1 S.2.1 dX11_isWithin_27 rfl (lv_at hl 1 rfl) ?_
    obtain ⟨b_5, h⟩ := gd h
    refine ml_low (v := (σ.2.1 13 p0.toNatClampNeg)) S hK hB b_5 rfl dX11_isWithin_28 ?_
    refine lv_aload_n S.1 S.2.1 dX11_isWithin_29 rfl (lv_at hl 0 rfl) ?_
    refine mg_high S hK hB wf_X11_41 dX11_isWithin_30 ?_
    refine lv_iload_n S.1 S.2.1 dX11_isWithin_33 rfl (lv_at hl 1 rfl) ?_
    obtain ⟨b_6, h⟩ := gd h
    refine ml_high (v := (σ.2.1 14 p0.toNatClampNeg)) S hK hB b_6 rfl dX11_isWithin_34 ?_
    obtain ⟨r_7, e_7, h⟩ := bnd h
    refine mCallSI S hK hc hKS hA (kX11_isIn hc e_7) (cwX11_101 S.2.2.2.2 (rm := rmX11_isIn) rfl rfl ⟨Nat.le_of_ble_eq_true rfl, Nat.le_of_ble_eq_true rfl⟩) hB rfl hl.1 rfl (lv_room (Nat.le_of_ble_eq_true rfl)) dX11_isWithin_35 ⟨Nat.zero_le _, Nat.zero_le _⟩ (fun H locs hB => ?_)
    refine lv_if_eq (tgt := 45) S.1 S.2.1 dX11_isWithin_38 (by decide) (fun c_8 => ?_) (fun c_8 => ?_)
    · replace h := (if_pos c_8).symm.trans h
      refine lv_iconst (v := (0 : Int32)) S.1 S.2.1 dX11_isWithin_45 (by decide) ?_
      cases h
      exact gRetZ S.1 S.2.1 hr hlk hB rfl dX11_isWithin_46
    · replace h := (if_neg c_8).symm.trans h
      refine lv_iconst (v := (1 : Int32)) S.1 S.2.1 dX11_isWithin_41 (by decide) ?_
      refine lv_goto (tgt := 46) S.1 S.2.1 dX11_isWithin_42 (by decide) ?_
      cases h
      exact gRetZ S.1 S.2.1 hr hlk hB rfl dX11_isWithin_46
def FX11_truth (p0 : Int32) : Option Int64 :=
  if p0 = 0 then
    some (0 : Int64)
  else
    some (1 : Int64)
abbrev rmX11_truth : Room := { frames := 0, cells := 0, slots := 0, locals := 0 }
set_option maxRecDepth 100000 in
set_option maxHeartbeats 4000000 in
theorem kX11_truth {l : Launch} {D : va_G} {cI cJ : ClassId} {KS : (Nat → Prop) → State → Prop} (hc : gC KS) {p0 : Int32} {W0 : va_W} {r : Int64} (h : FX11_truth p0 = some r) : gMet l yX11_truth qX11_truth rmX11_truth 0 0 D vwCl [(cI, .int), (cJ, .long)] KS [.int p0] W0 W0 (some (.long r)) := by
  refine gMet.of (cc := cX11_truth) (maxL := 1) (ret := (some .long)) (by decide) rfl (Nat.le_of_ble_eq_true rfl) ?_
  intro p e s m args below meth c S hr hlk hnm hK hKS hA hB ls hl
  have hl : lv_has ls 1 [(0, .int p0)] := hl
  replace S : CallFix p m c cX11_truth 1 s args (_ :: wsL_law) RX11 := S
  rw [FX11_truth] at h
  refine lv_iload_n S.1 S.2.1 dX11_truth_0 rfl (lv_at hl 0 rfl) ?_
  refine lv_if_eq (tgt := 8) S.1 S.2.1 dX11_truth_1 (by decide) (fun c_1 => ?_) (fun c_1 => ?_)
  · replace h := (if_pos c_1).symm.trans h
    refine lv_lconst (v := 0) S.1 S.2.1 dX11_truth_8 (by decide) ?_
    cases h
    exact gRetL S.1 S.2.1 hr hlk hB dX11_truth_9
  · replace h := (if_neg c_1).symm.trans h
    refine lv_lconst (v := 1) S.1 S.2.1 dX11_truth_4 (by decide) ?_
    refine lv_goto (tgt := 9) S.1 S.2.1 dX11_truth_5 (by decide) ?_
    cases h
    exact gRetL S.1 S.2.1 hr hlk hB dX11_truth_9
def FX11_compared (p0 : Int32) (p1 : Int64) (p2 : Int64) : Option Int32 :=
  if p0 = 0 then
    if p1 = p2 then
      some (1 : Int32)
    else
      some (0 : Int32)
  else
    if p0 = (1 : Int32) then
      if p1 = p2 then
        some (0 : Int32)
      else
        some (1 : Int32)
    else
      if p0 = (2 : Int32) then
        if ¬ p1 < p2 then
          some (0 : Int32)
        else
          some (1 : Int32)
      else
        if p0 = (3 : Int32) then
          if ¬ p2 < p1 then
            some (0 : Int32)
          else
            some (1 : Int32)
        else
          if p0 = (4 : Int32) then
            if p2 < p1 then
              some (0 : Int32)
            else
              some (1 : Int32)
          else
            if p1 < p2 then
              some (0 : Int32)
            else
              some (1 : Int32)
abbrev rmX11_compared : Room := { frames := 0, cells := 0, slots := 0, locals := 0 }
set_option maxRecDepth 100000 in
set_option maxHeartbeats 4000000 in
theorem kX11_compared {l : Launch} {D : va_G} {cI cJ : ClassId} {KS : (Nat → Prop) → State → Prop} (hc : gC KS) {p0 : Int32} {p1 : Int64} {p2 : Int64} {W0 : va_W} {r : Int32} (h : FX11_compared p0 p1 p2 = some r) : gMet l yX11_compared qX11_compared rmX11_compared 0 0 D vwCl [(cI, .int), (cJ, .long)] KS [.int p0, .long p1, .long p2] W0 W0 (some (.int r)) := by
  refine gMet.of (cc := cX11_compared) (maxL := 5) (ret := (some .boolean)) (by decide) rfl (Nat.le_of_ble_eq_true rfl) ?_
  intro p e s m args below meth c S hr hlk hnm hK hKS hA hB ls hl
  have hl : lv_has ls 5 [(0, .int p0), (1, .long p1), (3, .long p2)] := hl
  replace S : CallFix p m c cX11_compared 5 s args (_ :: wsL_law) RX11 := S
  rw [FX11_compared] at h
  refine lv_iload_n S.1 S.2.1 dX11_compared_0 rfl (lv_at hl 0 rfl) ?_
  refine lv_if_ne (tgt := 18) S.1 S.2.1 dX11_compared_1 (by decide) (fun c_1 => ?_) (fun c_1 => ?_)
  · replace h := (if_neg c_1).symm.trans h
    refine lv_iload_n S.1 S.2.1 dX11_compared_18 rfl (lv_at hl 0 rfl) ?_
    refine lv_iconst (v := (1 : Int32)) S.1 S.2.1 dX11_compared_19 (by decide) ?_
    refine lv_icmp_ne (tgt := 37) S.1 S.2.1 dX11_compared_20 (by decide) (fun c_2 => ?_) (fun c_2 => ?_)
    · replace h := (if_neg c_2).symm.trans h
      refine lv_iload_n S.1 S.2.1 dX11_compared_37 rfl (lv_at hl 0 rfl) ?_
      refine lv_iconst (v := (2 : Int32)) S.1 S.2.1 dX11_compared_38 (by decide) ?_
      refine lv_icmp_ne (tgt := 56) S.1 S.2.1 dX11_compared_39 (by decide) (fun c_3 => ?_) (fun c_3 => ?_)
      · replace h := (if_neg c_3).symm.trans h
        refine lv_iload_n S.1 S.2.1 dX11_compared_56 rfl (lv_at hl 0 rfl) ?_
        refine lv_iconst (v := (3 : Int32)) S.1 S.2.1 dX11_compared_57 (by decide) ?_
        refine lv_icmp_ne (tgt := 75) S.1 S.2.1 dX11_compared_58 (by decide) (fun c_4 => ?_) (fun c_4 => ?_)
        · replace h := (if_neg c_4).symm.trans h
          refine lv_iload_n S.1 S.2.1 dX11_compared_75 rfl (lv_at hl 0 rfl) ?_
          refine lv_iconst (v := (4 : Int32)) S.1 S.2.1 dX11_compared_76 (by decide) ?_
          refine lv_icmp_ne (tgt := 94) S.1 S.2.1 dX11_compared_77 (by decide) (fun c_5 => ?_) (fun c_5 => ?_)
          · replace h := (if_neg c_5).symm.trans h
            refine lv_lload_n S.1 S.2.1 dX11_compared_94 rfl (lv_at hl 1 rfl) ?_
            refine lv_lload_n S.1 S.2.1 dX11_compared_95 rfl (lv_at hl 2 rfl) ?_
            refine W.lcmp S.1 S.2.1 dX11_compared_96 ?_
            refine lv_if_lt (tgt := 104) S.1 S.2.1 dX11_compared_97 (by decide) (fun c_6 => ?_) (fun c_6 => ?_)
            · replace c_6 := lc_lt.mp c_6
              replace h := (if_pos c_6).symm.trans h
              refine lv_iconst (v := (0 : Int32)) S.1 S.2.1 dX11_compared_104 (by decide) ?_
              cases h
              exact gRetZ S.1 S.2.1 hr hlk hB rfl dX11_compared_105
            · replace c_6 := (not_congr lc_lt).mp c_6
              replace h := (if_neg c_6).symm.trans h
              refine lv_iconst (v := (1 : Int32)) S.1 S.2.1 dX11_compared_100 (by decide) ?_
              refine lv_goto (tgt := 105) S.1 S.2.1 dX11_compared_101 (by decide) ?_
              cases h
              exact gRetZ S.1 S.2.1 hr hlk hB rfl dX11_compared_105
          · replace h := (if_pos c_5).symm.trans h
            refine lv_lload_n S.1 S.2.1 dX11_compared_80 rfl (lv_at hl 1 rfl) ?_
            refine lv_lload_n S.1 S.2.1 dX11_compared_81 rfl (lv_at hl 2 rfl) ?_
            refine W.lcmp S.1 S.2.1 dX11_compared_82 ?_
            refine lv_if_gt (tgt := 90) S.1 S.2.1 dX11_compared_83 (by decide) (fun c_7 => ?_) (fun c_7 => ?_)
            · replace c_7 := lc_gt.mp c_7
              replace h := (if_pos c_7).symm.trans h
              refine lv_iconst (v := (0 : Int32)) S.1 S.2.1 dX11_compared_90 (by decide) ?_
              refine lv_goto (tgt := 105) S.1 S.2.1 dX11_compared_91 (by decide) ?_
              cases h
              exact gRetZ S.1 S.2.1 hr hlk hB rfl dX11_compared_105
            · replace c_7 := (not_congr lc_gt).mp c_7
              replace h := (if_neg c_7).symm.trans h
              refine lv_iconst (v := (1 : Int32)) S.1 S.2.1 dX11_compared_86 (by decide) ?_
              refine lv_goto (tgt := 105) S.1 S.2.1 dX11_compared_87 (by decide) ?_
              cases h
              exact gRetZ S.1 S.2.1 hr hlk hB rfl dX11_compared_105
        · replace h := (if_pos c_4).symm.trans h
          refine lv_lload_n S.1 S.2.1 dX11_compared_61 rfl (lv_at hl 1 rfl) ?_
          refine lv_lload_n S.1 S.2.1 dX11_compared_62 rfl (lv_at hl 2 rfl) ?_
          refine W.lcmp S.1 S.2.1 dX11_compared_63 ?_
          refine lv_if_le (tgt := 71) S.1 S.2.1 dX11_compared_64 (by decide) (fun c_8 => ?_) (fun c_8 => ?_)
          · replace c_8 := lc_le.mp c_8
            replace h := (if_pos c_8).symm.trans h
            refine lv_iconst (v := (0 : Int32)) S.1 S.2.1 dX11_compared_71 (by decide) ?_
            refine lv_goto (tgt := 105) S.1 S.2.1 dX11_compared_72 (by decide) ?_
            cases h
            exact gRetZ S.1 S.2.1 hr hlk hB rfl dX11_compared_105
          · replace c_8 := (not_congr lc_le).mp c_8
            replace h := (if_neg c_8).symm.trans h
            refine lv_iconst (v := (1 : Int32)) S.1 S.2.1 dX11_compared_67 (by decide) ?_
            refine lv_goto (tgt := 105) S.1 S.2.1 dX11_compared_68 (by decide) ?_
            cases h
            exact gRetZ S.1 S.2.1 hr hlk hB rfl dX11_compared_105
      · replace h := (if_pos c_3).symm.trans h
        refine lv_lload_n S.1 S.2.1 dX11_compared_42 rfl (lv_at hl 1 rfl) ?_
        refine lv_lload_n S.1 S.2.1 dX11_compared_43 rfl (lv_at hl 2 rfl) ?_
        refine W.lcmp S.1 S.2.1 dX11_compared_44 ?_
        refine lv_if_ge (tgt := 52) S.1 S.2.1 dX11_compared_45 (by decide) (fun c_9 => ?_) (fun c_9 => ?_)
        · replace c_9 := lc_ge.mp c_9
          replace h := (if_pos c_9).symm.trans h
          refine lv_iconst (v := (0 : Int32)) S.1 S.2.1 dX11_compared_52 (by decide) ?_
          refine lv_goto (tgt := 105) S.1 S.2.1 dX11_compared_53 (by decide) ?_
          cases h
          exact gRetZ S.1 S.2.1 hr hlk hB rfl dX11_compared_105
        · replace c_9 := (not_congr lc_ge).mp c_9
          replace h := (if_neg c_9).symm.trans h
          refine lv_iconst (v := (1 : Int32)) S.1 S.2.1 dX11_compared_48 (by decide) ?_
          refine lv_goto (tgt := 105) S.1 S.2.1 dX11_compared_49 (by decide) ?_
          cases h
          exact gRetZ S.1 S.2.1 hr hlk hB rfl dX11_compared_105
    · replace h := (if_pos c_2).symm.trans h
      refine lv_lload_n S.1 S.2.1 dX11_compared_23 rfl (lv_at hl 1 rfl) ?_
      refine lv_lload_n S.1 S.2.1 dX11_compared_24 rfl (lv_at hl 2 rfl) ?_
      refine W.lcmp S.1 S.2.1 dX11_compared_25 ?_
      refine lv_if_eq (tgt := 33) S.1 S.2.1 dX11_compared_26 (by decide) (fun c_10 => ?_) (fun c_10 => ?_)
      · replace c_10 := lc_eq.mp c_10
        replace h := (if_pos c_10).symm.trans h
        refine lv_iconst (v := (0 : Int32)) S.1 S.2.1 dX11_compared_33 (by decide) ?_
        refine lv_goto (tgt := 105) S.1 S.2.1 dX11_compared_34 (by decide) ?_
        cases h
        exact gRetZ S.1 S.2.1 hr hlk hB rfl dX11_compared_105
      · replace c_10 := (not_congr lc_eq).mp c_10
        replace h := (if_neg c_10).symm.trans h
        refine lv_iconst (v := (1 : Int32)) S.1 S.2.1 dX11_compared_29 (by decide) ?_
        refine lv_goto (tgt := 105) S.1 S.2.1 dX11_compared_30 (by decide) ?_
        cases h
        exact gRetZ S.1 S.2.1 hr hlk hB rfl dX11_compared_105
  · replace h := (if_pos c_1).symm.trans h
    refine lv_lload_n S.1 S.2.1 dX11_compared_4 rfl (lv_at hl 1 rfl) ?_
    refine lv_lload_n S.1 S.2.1 dX11_compared_5 rfl (lv_at hl 2 rfl) ?_
    refine W.lcmp S.1 S.2.1 dX11_compared_6 ?_
    refine lv_if_ne (tgt := 14) S.1 S.2.1 dX11_compared_7 (by decide) (fun c_11 => ?_) (fun c_11 => ?_)
    · replace c_11 := (not_congr lc_eq).mp c_11
      replace h := (if_neg c_11).symm.trans h
      refine lv_iconst (v := (0 : Int32)) S.1 S.2.1 dX11_compared_14 (by decide) ?_
      refine lv_goto (tgt := 105) S.1 S.2.1 dX11_compared_15 (by decide) ?_
      cases h
      exact gRetZ S.1 S.2.1 hr hlk hB rfl dX11_compared_105
    · replace c_11 := lc_eq.mp c_11
      replace h := (if_pos c_11).symm.trans h
      refine lv_iconst (v := (1 : Int32)) S.1 S.2.1 dX11_compared_10 (by decide) ?_
      refine lv_goto (tgt := 105) S.1 S.2.1 dX11_compared_11 (by decide) ?_
      cases h
      exact gRetZ S.1 S.2.1 hr hlk hB rfl dX11_compared_105
def FX11_both_13  (x0 : Int32) (x1 : Int64) (x3 : Int64) : Option Int64 :=
    if x0 = 0 then
      some (x1 + x3)
    else
      if x0 = (1 : Int32) then
        some (x1 - x3)
      else
        if x0 = (2 : Int32) then
          some (x1 * x3)
        else
          if x0 = (3 : Int32) then
            if (x3 = 0) then none else
            some (x1 / x3)
          else
            if (x3 = 0) then none else
            some (x1 - x1 / x3 * x3)
def FX11_both (p0 : Int32) (p1 : Int64) (p2 : Int64) : Option Int64 :=
  if p0 ≤ (2 : Int32) then
    FX11_both_13 p0 p1 p2
  else
    if p2 = (0 : Int64) then
      some (0 : Int64)
    else
      FX11_both_13 p0 p1 p2
abbrev rmX11_both : Room := { frames := 0, cells := 0, slots := 0, locals := 0 }
set_option maxRecDepth 100000 in
set_option maxHeartbeats 4000000 in
theorem kX11_both {l : Launch} {D : va_G} {cI cJ : ClassId} {KS : (Nat → Prop) → State → Prop} (hc : gC KS) {p0 : Int32} {p1 : Int64} {p2 : Int64} {W0 : va_W} {r : Int64} (h : FX11_both p0 p1 p2 = some r) : gMet l yX11_both qX11_both rmX11_both 0 0 D vwCl [(cI, .int), (cJ, .long)] KS [.int p0, .long p1, .long p2] W0 W0 (some (.long r)) := by
  refine gMet.of (cc := cX11_both) (maxL := 5) (ret := (some .long)) (by decide) rfl (Nat.le_of_ble_eq_true rfl) ?_
  intro p e s m args below meth c S hr hlk hnm hK hKS hA hB ls hl
  have hl : lv_has ls 5 [(0, .int p0), (1, .long p1), (3, .long p2)] := hl
  replace S : CallFix p m c cX11_both 5 s args (_ :: wsL_law) RX11 := S
  rw [FX11_both] at h
  have P13 : ∀ (x0 : Int32) (x1 : Int64) (x3 : Int64) (H : Heap) (locs : List Loc) (ls : Array Slot), FX11_both_13 x0 x1 x3 = some r → gB D vwCl (va_A W0 s.heap.size) s.heap W0 [] H locs → lv_has ls 5 [(0, .int x0), (1, .long x1), (3, .long x3)] → W p l e rmX11_both s m args below meth c H locs 0 0 (MQ below (gQ D vwCl W0 W0 (some (.long r)) s.heap.size) args s 0 0 (va_A W0 s.heap.size)) (F0 m 13 ls []) := by
    intro  x0 x1 x3 H locs ls h hB hl
    rw [FX11_both_13] at h
    refine lv_iload_n S.1 S.2.1 dX11_both_13 rfl (lv_at hl 0 rfl) ?_
    refine lv_if_ne (tgt := 23) S.1 S.2.1 dX11_both_14 (by decide) (fun c_2 => ?_) (fun c_2 => ?_)
    · replace h := (if_neg c_2).symm.trans h
      refine lv_iload_n S.1 S.2.1 dX11_both_23 rfl (lv_at hl 0 rfl) ?_
      refine lv_iconst (v := (1 : Int32)) S.1 S.2.1 dX11_both_24 (by decide) ?_
      refine lv_icmp_ne (tgt := 34) S.1 S.2.1 dX11_both_25 (by decide) (fun c_3 => ?_) (fun c_3 => ?_)
      · replace h := (if_neg c_3).symm.trans h
        refine lv_iload_n S.1 S.2.1 dX11_both_34 rfl (lv_at hl 0 rfl) ?_
        refine lv_iconst (v := (2 : Int32)) S.1 S.2.1 dX11_both_35 (by decide) ?_
        refine lv_icmp_ne (tgt := 45) S.1 S.2.1 dX11_both_36 (by decide) (fun c_4 => ?_) (fun c_4 => ?_)
        · replace h := (if_neg c_4).symm.trans h
          refine lv_iload_n S.1 S.2.1 dX11_both_45 rfl (lv_at hl 0 rfl) ?_
          refine lv_iconst (v := (3 : Int32)) S.1 S.2.1 dX11_both_46 (by decide) ?_
          refine lv_icmp_ne (tgt := 56) S.1 S.2.1 dX11_both_47 (by decide) (fun c_5 => ?_) (fun c_5 => ?_)
          · replace h := (if_neg c_5).symm.trans h
            refine lv_lload_n S.1 S.2.1 dX11_both_56 rfl (lv_at hl 1 rfl) ?_
            refine lv_lload_n S.1 S.2.1 dX11_both_57 rfl (lv_at hl 2 rfl) ?_
            obtain ⟨z_6, h⟩ := gd h
            refine lv_lrem S.1 S.2.1 dX11_both_58 z_6 ?_
            cases h
            exact gRetL S.1 S.2.1 hr hlk hB dX11_both_59
          · replace h := (if_pos c_5).symm.trans h
            refine lv_lload_n S.1 S.2.1 dX11_both_50 rfl (lv_at hl 1 rfl) ?_
            refine lv_lload_n S.1 S.2.1 dX11_both_51 rfl (lv_at hl 2 rfl) ?_
            obtain ⟨z_7, h⟩ := gd h
            refine lv_ldiv S.1 S.2.1 dX11_both_52 z_7 ?_
            refine lv_goto (tgt := 59) S.1 S.2.1 dX11_both_53 (by decide) ?_
            cases h
            exact gRetL S.1 S.2.1 hr hlk hB dX11_both_59
        · replace h := (if_pos c_4).symm.trans h
          refine lv_lload_n S.1 S.2.1 dX11_both_39 rfl (lv_at hl 1 rfl) ?_
          refine lv_lload_n S.1 S.2.1 dX11_both_40 rfl (lv_at hl 2 rfl) ?_
          refine lv_lmul S.1 S.2.1 dX11_both_41 ?_
          refine lv_goto (tgt := 59) S.1 S.2.1 dX11_both_42 (by decide) ?_
          cases h
          exact gRetL S.1 S.2.1 hr hlk hB dX11_both_59
      · replace h := (if_pos c_3).symm.trans h
        refine lv_lload_n S.1 S.2.1 dX11_both_28 rfl (lv_at hl 1 rfl) ?_
        refine lv_lload_n S.1 S.2.1 dX11_both_29 rfl (lv_at hl 2 rfl) ?_
        refine lv_lsub S.1 S.2.1 dX11_both_30 ?_
        refine lv_goto (tgt := 59) S.1 S.2.1 dX11_both_31 (by decide) ?_
        cases h
        exact gRetL S.1 S.2.1 hr hlk hB dX11_both_59
    · replace h := (if_pos c_2).symm.trans h
      refine lv_lload_n S.1 S.2.1 dX11_both_17 rfl (lv_at hl 1 rfl) ?_
      refine lv_lload_n S.1 S.2.1 dX11_both_18 rfl (lv_at hl 2 rfl) ?_
      refine lv_ladd S.1 S.2.1 dX11_both_19 ?_
      refine lv_goto (tgt := 59) S.1 S.2.1 dX11_both_20 (by decide) ?_
      cases h
      exact gRetL S.1 S.2.1 hr hlk hB dX11_both_59
  refine lv_iload_n S.1 S.2.1 dX11_both_0 rfl (lv_at hl 0 rfl) ?_
  refine lv_iconst (v := (2 : Int32)) S.1 S.2.1 dX11_both_1 (by decide) ?_
  refine lv_icmp_le (tgt := 13) S.1 S.2.1 dX11_both_2 (by decide) (fun c_1 => ?_) (fun c_1 => ?_)
  · replace h := (if_pos c_1).symm.trans h
    exact P13  _ _ _ _ _ _ h hB hl
  · replace h := (if_neg c_1).symm.trans h
    refine lv_lload_n S.1 S.2.1 dX11_both_5 rfl (lv_at hl 2 rfl) ?_
    refine lv_lconst (v := 0) S.1 S.2.1 dX11_both_6 (by decide) ?_
    refine W.lcmp S.1 S.2.1 dX11_both_7 ?_
    refine lv_if_ne (tgt := 13) S.1 S.2.1 dX11_both_8 (by decide) (fun c_8 => ?_) (fun c_8 => ?_)
    · replace c_8 := (not_congr lc_eq).mp c_8
      replace h := (if_neg c_8).symm.trans h
      exact P13  _ _ _ _ _ _ h hB hl
    · replace c_8 := lc_eq.mp c_8
      replace h := (if_pos c_8).symm.trans h
      refine lv_lconst (v := 0) S.1 S.2.1 dX11_both_11 (by decide) ?_
      cases h
      exact gRetL S.1 S.2.1 hr hlk hB dX11_both_12
def FX11_moved (p0 : Int32) (p1 : Int32) (p2 : Int32) (p3 : Int32) : Option Int32 :=
  if p3 = 0 then
    some p0
  else
    if p0 < p1 then
      some p0
    else
      some (p0 - p2)
abbrev rmX11_moved : Room := { frames := 0, cells := 0, slots := 0, locals := 0 }
set_option maxRecDepth 100000 in
set_option maxHeartbeats 4000000 in
theorem kX11_moved {l : Launch} {D : va_G} {cI cJ : ClassId} {KS : (Nat → Prop) → State → Prop} (hc : gC KS) {p0 : Int32} {p1 : Int32} {p2 : Int32} {p3 : Int32} {W0 : va_W} {r : Int32} (h : FX11_moved p0 p1 p2 p3 = some r) : gMet l yX11_moved qX11_moved rmX11_moved 0 0 D vwCl [(cI, .int), (cJ, .long)] KS [.int p0, .int p1, .int p2, .int p3] W0 W0 (some (.int r)) := by
  refine gMet.of (cc := cX11_moved) (maxL := 4) (ret := (some .int)) (by decide) rfl (Nat.le_of_ble_eq_true rfl) ?_
  intro p e s m args below meth c S hr hlk hnm hK hKS hA hB ls hl
  have hl : lv_has ls 4 [(0, .int p0), (1, .int p1), (2, .int p2), (3, .int p3)] := hl
  replace S : CallFix p m c cX11_moved 4 s args (_ :: wsL_law) RX11 := S
  rw [FX11_moved] at h
  refine lv_iload_n S.1 S.2.1 dX11_moved_0 rfl (lv_at hl 3 rfl) ?_
  refine lv_if_eq (tgt := 15) S.1 S.2.1 dX11_moved_1 (by decide) (fun c_1 => ?_) (fun c_1 => ?_)
  · replace h := (if_pos c_1).symm.trans h
    refine lv_iload_n S.1 S.2.1 dX11_moved_15 rfl (lv_at hl 0 rfl) ?_
    cases h
    exact gRetI S.1 S.2.1 hr hlk hB dX11_moved_16
  · replace h := (if_neg c_1).symm.trans h
    refine lv_iload_n S.1 S.2.1 dX11_moved_4 rfl (lv_at hl 0 rfl) ?_
    refine lv_iload_n S.1 S.2.1 dX11_moved_5 rfl (lv_at hl 1 rfl) ?_
    refine lv_icmp_lt (tgt := 15) S.1 S.2.1 dX11_moved_6 (by decide) (fun c_2 => ?_) (fun c_2 => ?_)
    · replace h := (if_pos c_2).symm.trans h
      refine lv_iload_n S.1 S.2.1 dX11_moved_15 rfl (lv_at hl 0 rfl) ?_
      cases h
      exact gRetI S.1 S.2.1 hr hlk hB dX11_moved_16
    · replace h := (if_neg c_2).symm.trans h
      refine lv_iload_n S.1 S.2.1 dX11_moved_9 rfl (lv_at hl 0 rfl) ?_
      refine lv_iload_n S.1 S.2.1 dX11_moved_10 rfl (lv_at hl 2 rfl) ?_
      refine lv_isub S.1 S.2.1 dX11_moved_11 ?_
      refine lv_goto (tgt := 16) S.1 S.2.1 dX11_moved_12 (by decide) ?_
      cases h
      exact gRetI S.1 S.2.1 hr hlk hB dX11_moved_16
def FX11_isPart (p0 : Int32) (p1 : Int32) : Option Int32 :=
  if p0 = (20 : Int32) then
    some (0 : Int32)
  else
    if p0 = (21 : Int32) then
      some (0 : Int32)
    else
      if p1 < (3 : Int32) then
        some (1 : Int32)
      else
        if p0 = (33 : Int32) then
          some (1 : Int32)
        else
          some (0 : Int32)
abbrev rmX11_isPart : Room := { frames := 0, cells := 0, slots := 0, locals := 0 }
set_option maxRecDepth 100000 in
set_option maxHeartbeats 4000000 in
theorem kX11_isPart {l : Launch} {D : va_G} {cI cJ : ClassId} {KS : (Nat → Prop) → State → Prop} (hc : gC KS) {p0 : Int32} {p1 : Int32} {W0 : va_W} {r : Int32} (h : FX11_isPart p0 p1 = some r) : gMet l yX11_isPart qX11_isPart rmX11_isPart 0 0 D vwCl [(cI, .int), (cJ, .long)] KS [.int p0, .int p1] W0 W0 (some (.int r)) := by
  refine gMet.of (cc := cX11_isPart) (maxL := 2) (ret := (some .boolean)) (by decide) rfl (Nat.le_of_ble_eq_true rfl) ?_
  intro p e s m args below meth c S hr hlk hnm hK hKS hA hB ls hl
  have hl : lv_has ls 2 [(0, .int p0), (1, .int p1)] := hl
  replace S : CallFix p m c cX11_isPart 2 s args (_ :: wsL_law) RX11 := S
  rw [FX11_isPart] at h
  refine lv_iload_n S.1 S.2.1 dX11_isPart_0 rfl (lv_at hl 0 rfl) ?_
  refine lv_bipush (v := (20 : Int32)) S.1 S.2.1 dX11_isPart_1 (by decide) ?_
  refine lv_icmp_eq (tgt := 12) S.1 S.2.1 dX11_isPart_3 (by decide) (fun c_1 => ?_) (fun c_1 => ?_)
  · replace h := (if_pos c_1).symm.trans h
    refine lv_iconst (v := (0 : Int32)) S.1 S.2.1 dX11_isPart_12 (by decide) ?_
    cases h
    exact gRetZ S.1 S.2.1 hr hlk hB rfl dX11_isPart_13
  · replace h := (if_neg c_1).symm.trans h
    refine lv_iload_n S.1 S.2.1 dX11_isPart_6 rfl (lv_at hl 0 rfl) ?_
    refine lv_bipush (v := (21 : Int32)) S.1 S.2.1 dX11_isPart_7 (by decide) ?_
    refine lv_icmp_ne (tgt := 14) S.1 S.2.1 dX11_isPart_9 (by decide) (fun c_2 => ?_) (fun c_2 => ?_)
    · replace h := (if_neg c_2).symm.trans h
      refine lv_iload_n S.1 S.2.1 dX11_isPart_14 rfl (lv_at hl 1 rfl) ?_
      refine lv_iconst (v := (3 : Int32)) S.1 S.2.1 dX11_isPart_15 (by decide) ?_
      refine lv_icmp_lt (tgt := 25) S.1 S.2.1 dX11_isPart_16 (by decide) (fun c_3 => ?_) (fun c_3 => ?_)
      · replace h := (if_pos c_3).symm.trans h
        refine lv_iconst (v := (1 : Int32)) S.1 S.2.1 dX11_isPart_25 (by decide) ?_
        refine lv_goto (tgt := 30) S.1 S.2.1 dX11_isPart_26 (by decide) ?_
        cases h
        exact gRetZ S.1 S.2.1 hr hlk hB rfl dX11_isPart_30
      · replace h := (if_neg c_3).symm.trans h
        refine lv_iload_n S.1 S.2.1 dX11_isPart_19 rfl (lv_at hl 0 rfl) ?_
        refine lv_bipush (v := (33 : Int32)) S.1 S.2.1 dX11_isPart_20 (by decide) ?_
        refine lv_icmp_ne (tgt := 29) S.1 S.2.1 dX11_isPart_22 (by decide) (fun c_4 => ?_) (fun c_4 => ?_)
        · replace h := (if_neg c_4).symm.trans h
          refine lv_iconst (v := (0 : Int32)) S.1 S.2.1 dX11_isPart_29 (by decide) ?_
          cases h
          exact gRetZ S.1 S.2.1 hr hlk hB rfl dX11_isPart_30
        · replace h := (if_pos c_4).symm.trans h
          refine lv_iconst (v := (1 : Int32)) S.1 S.2.1 dX11_isPart_25 (by decide) ?_
          refine lv_goto (tgt := 30) S.1 S.2.1 dX11_isPart_26 (by decide) ?_
          cases h
          exact gRetZ S.1 S.2.1 hr hlk hB rfl dX11_isPart_30
    · replace h := (if_pos c_2).symm.trans h
      refine lv_iconst (v := (0 : Int32)) S.1 S.2.1 dX11_isPart_12 (by decide) ?_
      cases h
      exact gRetZ S.1 S.2.1 hr hlk hB rfl dX11_isPart_13
def FX11_isStep (p0 : Int32) (σ : MS) : Option (Int32 × MS) :=
  (FX11_isIn p0 (0 : Int32) ((σ.1 29) - (1 : Int32))).bind fun r_1 =>
  if (r_1 ≠ 0 ∧ r_1 ≠ 1) then none else
  some (r_1, σ)
abbrev rmX11_isStep : Room := { frames := 1, cells := 0, slots := 0, locals := 22 }
set_option maxRecDepth 100000 in
set_option maxHeartbeats 4000000 in
theorem kX11_isStep {l : Launch} {D : va_G} {cI cJ : ClassId} {ad : Nat → Nat} {KS : (Nat → Prop) → State → Prop} (hc : gC KS) {p0 : Int32} {σ σ' : MS} {r : Int32} (h : FX11_isStep p0 σ = some (r, σ')) : gMet l yX11_isStep qX11_isStep rmX11_isStep 0 0 D vwCl [(cI, .int), (cJ, .long)] KS [.ref (ad 0), .int p0] (MW cI cJ ad σ) (MW cI cJ ad σ') (some (.int r)) := by
  refine gMet.of (cc := cX11_isStep) (maxL := 2) (ret := (some .boolean)) (by decide) rfl (Nat.le_of_ble_eq_true rfl) ?_
  intro p e s m args below meth c S hr hlk hnm hK hKS hA hB ls hl
  have hl : lv_has ls 2 [(0, .ref (ad 0)), (1, .int p0)] := hl
  replace S : CallFix p m c cX11_isStep 2 s args (_ :: wsL_law) RX11 := S
  rw [FX11_isStep] at h
  refine lv_iload_n S.1 S.2.1 dX11_isStep_0 rfl (lv_at hl 1 rfl) ?_
  refine lv_iconst (v := (0 : Int32)) S.1 S.2.1 dX11_isStep_1 (by decide) ?_
  refine lv_aload_n S.1 S.2.1 dX11_isStep_2 rfl (lv_at hl 0 rfl) ?_
  refine mg_steps S hK hB wf_X11_369 rfl dX11_isStep_3 ?_
  refine lv_iconst (v := (1 : Int32)) S.1 S.2.1 dX11_isStep_6 (by decide) ?_
  refine lv_isub S.1 S.2.1 dX11_isStep_7 ?_
  obtain ⟨r_1, e_1, h⟩ := bnd h
  refine mCallSI S hK hc hKS hA (kX11_isIn hc e_1) (cwX11_101 S.2.2.2.2 (rm := rmX11_isIn) rfl rfl ⟨Nat.le_of_ble_eq_true rfl, Nat.le_of_ble_eq_true rfl⟩) hB rfl hl.1 rfl (lv_room (Nat.le_of_ble_eq_true rfl)) dX11_isStep_8 ⟨Nat.zero_le _, Nat.zero_le _⟩ (fun H locs hB => ?_)
  obtain ⟨z_2, h⟩ := gd h
  cases h
  exact gRetZ S.1 S.2.1 hr hlk hB (nzB z_2) dX11_isStep_11
def FX11_isWatch (p0 : Int32) (σ : MS) : Option (Int32 × MS) :=
  if ((3 : Int32) < 0 ∨ 4 ≤ (3 : Int32).toNatClampNeg) then none else
  (FX11_isIn p0 (0 : Int32) ((σ.2.1 23 (3 : Int32).toNatClampNeg) - (1 : Int32))).bind fun r_2 =>
  if (r_2 ≠ 0 ∧ r_2 ≠ 1) then none else
  some (r_2, σ)
abbrev rmX11_isWatch : Room := { frames := 1, cells := 0, slots := 0, locals := 22 }
set_option maxRecDepth 100000 in
set_option maxHeartbeats 4000000 in
theorem kX11_isWatch {l : Launch} {D : va_G} {cI cJ : ClassId} {ad : Nat → Nat} {KS : (Nat → Prop) → State → Prop} (hc : gC KS) {p0 : Int32} {σ σ' : MS} {r : Int32} (h : FX11_isWatch p0 σ = some (r, σ')) : gMet l yX11_isWatch qX11_isWatch rmX11_isWatch 0 0 D vwCl [(cI, .int), (cJ, .long)] KS [.ref (ad 0), .int p0] (MW cI cJ ad σ) (MW cI cJ ad σ') (some (.int r)) := by
  refine gMet.of (cc := cX11_isWatch) (maxL := 2) (ret := (some .boolean)) (by decide) rfl (Nat.le_of_ble_eq_true rfl) ?_
  intro p e s m args below meth c S hr hlk hnm hK hKS hA hB ls hl
  have hl : lv_has ls 2 [(0, .ref (ad 0)), (1, .int p0)] := hl
  replace S : CallFix p m c cX11_isWatch 2 s args (_ :: wsL_law) RX11 := S
  rw [FX11_isWatch] at h
  refine lv_iload_n S.1 S.2.1 dX11_isWatch_0 rfl (lv_at hl 1 rfl) ?_
  refine lv_iconst (v := (0 : Int32)) S.1 S.2.1 dX11_isWatch_1 (by decide) ?_
  refine lv_aload_n S.1 S.2.1 dX11_isWatch_2 rfl (lv_at hl 0 rfl) ?_
  refine mg_many S hK hB wf_X11_61 dX11_isWatch_3 ?_
  refine lv_iconst (v := (3 : Int32)) S.1 S.2.1 dX11_isWatch_6 (by decide) ?_
  obtain ⟨b_1, h⟩ := gd h
  refine ml_many (v := (σ.2.1 23 (3 : Int32).toNatClampNeg)) S hK hB b_1 rfl dX11_isWatch_7 ?_
  refine lv_iconst (v := (1 : Int32)) S.1 S.2.1 dX11_isWatch_8 (by decide) ?_
  refine lv_isub S.1 S.2.1 dX11_isWatch_9 ?_
  obtain ⟨r_2, e_2, h⟩ := bnd h
  refine mCallSI S hK hc hKS hA (kX11_isIn hc e_2) (cwX11_101 S.2.2.2.2 (rm := rmX11_isIn) rfl rfl ⟨Nat.le_of_ble_eq_true rfl, Nat.le_of_ble_eq_true rfl⟩) hB rfl hl.1 rfl (lv_room (Nat.le_of_ble_eq_true rfl)) dX11_isWatch_10 ⟨Nat.zero_le _, Nat.zero_le _⟩ (fun H locs hB => ?_)
  obtain ⟨z_3, h⟩ := gd h
  cases h
  exact gRetZ S.1 S.2.1 hr hlk hB (nzB z_3) dX11_isWatch_13
def FX11_watches (p0 : Int32) (p1 : Int32) (σ : MS) : Option (Int32 × MS) :=
  if (((36 : Int32) + p0) < 0 ∨ 48 ≤ ((36 : Int32) + p0).toNatClampNeg) then none else
  b2 (FX11_holds (σ.2.1 25 ((36 : Int32) + p0).toNatClampNeg) p1 σ) fun r_2 σ_2 =>
  if (r_2 ≠ 0 ∧ r_2 ≠ 1) then none else
  some (r_2, σ_2)
abbrev rmX11_watches : Room := { frames := 2, cells := 0, slots := 0, locals := 44 }
set_option maxRecDepth 100000 in
set_option maxHeartbeats 4000000 in
theorem kX11_watches {l : Launch} {D : va_G} {cI cJ : ClassId} {ad : Nat → Nat} {KS : (Nat → Prop) → State → Prop} (hc : gC KS) {p0 : Int32} {p1 : Int32} {σ σ' : MS} {r : Int32} (h : FX11_watches p0 p1 σ = some (r, σ')) : gMet l yX11_watches qX11_watches rmX11_watches 0 0 D vwCl [(cI, .int), (cJ, .long)] KS [.ref (ad 0), .int p0, .int p1] (MW cI cJ ad σ) (MW cI cJ ad σ') (some (.int r)) := by
  refine gMet.of (cc := cX11_watches) (maxL := 3) (ret := (some .boolean)) (by decide) rfl (Nat.le_of_ble_eq_true rfl) ?_
  intro p e s m args below meth c S hr hlk hnm hK hKS hA hB ls hl
  have hl : lv_has ls 3 [(0, .ref (ad 0)), (1, .int p0), (2, .int p1)] := hl
  replace S : CallFix p m c cX11_watches 3 s args (_ :: wsL_law) RX11 := S
  rw [FX11_watches] at h
  refine lv_aload_n S.1 S.2.1 dX11_watches_0 rfl (lv_at hl 0 rfl) ?_
  refine lv_aload_n S.1 S.2.1 dX11_watches_1 rfl (lv_at hl 0 rfl) ?_
  refine mg_tops S hK hB wf_X11_67 dX11_watches_2 ?_
  refine lv_bipush (v := (36 : Int32)) S.1 S.2.1 dX11_watches_5 (by decide) ?_
  refine lv_iload_n S.1 S.2.1 dX11_watches_7 rfl (lv_at hl 1 rfl) ?_
  refine lv_iadd S.1 S.2.1 dX11_watches_8 ?_
  obtain ⟨b_1, h⟩ := gd h
  refine ml_tops (v := (σ.2.1 25 ((36 : Int32) + p0).toNatClampNeg)) S hK hB b_1 rfl dX11_watches_9 ?_
  refine lv_iload_n S.1 S.2.1 dX11_watches_10 rfl (lv_at hl 2 rfl) ?_
  obtain ⟨r_2, σ_2, e_2, h⟩ := b2s h
  refine mCallI S hK hc hKS hA (kX11_holds hc e_2) (cwX11_407 S.2.2.2.2 (rm := rmX11_holds) rfl rfl ⟨Nat.le_of_ble_eq_true rfl, Nat.le_of_ble_eq_true rfl⟩) hB rfl hl.1 rfl (lv_room (Nat.le_of_ble_eq_true rfl)) dX11_watches_11 ⟨Nat.zero_le _, Nat.zero_le _⟩ (fun H locs hB => ?_)
  obtain ⟨z_3, h⟩ := gd h
  cases h
  exact gRetZ S.1 S.2.1 hr hlk hB (nzB z_3) dX11_watches_14
def FX11_counted (p0 : Int32) (σ : MS) : Option (Int32 × MS) :=
  if (4 : Int32) ≤ p0 then
    if p0 = (4 : Int32) then
      some (σ.1 29, σ)
    else
      if p0 = (5 : Int32) then
        some (σ.1 33, σ)
      else
        some (σ.1 2, σ)
  else
    if (p0 < 0 ∨ 4 ≤ p0.toNatClampNeg) then none else
    some ((σ.2.1 23 p0.toNatClampNeg), σ)
abbrev rmX11_counted : Room := { frames := 0, cells := 0, slots := 0, locals := 0 }
set_option maxRecDepth 100000 in
set_option maxHeartbeats 4000000 in
theorem kX11_counted {l : Launch} {D : va_G} {cI cJ : ClassId} {ad : Nat → Nat} {KS : (Nat → Prop) → State → Prop} (hc : gC KS) {p0 : Int32} {σ σ' : MS} {r : Int32} (h : FX11_counted p0 σ = some (r, σ')) : gMet l yX11_counted qX11_counted rmX11_counted 0 0 D vwCl [(cI, .int), (cJ, .long)] KS [.ref (ad 0), .int p0] (MW cI cJ ad σ) (MW cI cJ ad σ') (some (.int r)) := by
  refine gMet.of (cc := cX11_counted) (maxL := 2) (ret := (some .int)) (by decide) rfl (Nat.le_of_ble_eq_true rfl) ?_
  intro p e s m args below meth c S hr hlk hnm hK hKS hA hB ls hl
  have hl : lv_has ls 2 [(0, .ref (ad 0)), (1, .int p0)] := hl
  replace S : CallFix p m c cX11_counted 2 s args (_ :: wsL_law) RX11 := S
  rw [FX11_counted] at h
  refine lv_iload_n S.1 S.2.1 dX11_counted_0 rfl (lv_at hl 1 rfl) ?_
  refine lv_iconst (v := (4 : Int32)) S.1 S.2.1 dX11_counted_1 (by decide) ?_
  refine lv_icmp_ge (tgt := 14) S.1 S.2.1 dX11_counted_2 (by decide) (fun c_1 => ?_) (fun c_1 => ?_)
  · replace h := (if_pos c_1).symm.trans h
    refine lv_iload_n S.1 S.2.1 dX11_counted_14 rfl (lv_at hl 1 rfl) ?_
    refine lv_iconst (v := (4 : Int32)) S.1 S.2.1 dX11_counted_15 (by decide) ?_
    refine lv_icmp_ne (tgt := 26) S.1 S.2.1 dX11_counted_16 (by decide) (fun c_2 => ?_) (fun c_2 => ?_)
    · replace h := (if_neg c_2).symm.trans h
      refine lv_iload_n S.1 S.2.1 dX11_counted_26 rfl (lv_at hl 1 rfl) ?_
      refine lv_iconst (v := (5 : Int32)) S.1 S.2.1 dX11_counted_27 (by decide) ?_
      refine lv_icmp_ne (tgt := 38) S.1 S.2.1 dX11_counted_28 (by decide) (fun c_3 => ?_) (fun c_3 => ?_)
      · replace h := (if_neg c_3).symm.trans h
        refine lv_aload_n S.1 S.2.1 dX11_counted_38 rfl (lv_at hl 0 rfl) ?_
        refine mg_length S hK hB wf_X11_94 rfl dX11_counted_39 ?_
        cases h
        exact gRetI S.1 S.2.1 hr hlk hB dX11_counted_42
      · replace h := (if_pos c_3).symm.trans h
        refine lv_aload_n S.1 S.2.1 dX11_counted_31 rfl (lv_at hl 0 rfl) ?_
        refine mg_kept S hK hB wf_X11_387 rfl dX11_counted_32 ?_
        refine lv_goto (tgt := 42) S.1 S.2.1 dX11_counted_35 (by decide) ?_
        cases h
        exact gRetI S.1 S.2.1 hr hlk hB dX11_counted_42
    · replace h := (if_pos c_2).symm.trans h
      refine lv_aload_n S.1 S.2.1 dX11_counted_19 rfl (lv_at hl 0 rfl) ?_
      refine mg_steps S hK hB wf_X11_369 rfl dX11_counted_20 ?_
      refine lv_goto (tgt := 42) S.1 S.2.1 dX11_counted_23 (by decide) ?_
      cases h
      exact gRetI S.1 S.2.1 hr hlk hB dX11_counted_42
  · replace h := (if_neg c_1).symm.trans h
    refine lv_aload_n S.1 S.2.1 dX11_counted_5 rfl (lv_at hl 0 rfl) ?_
    refine mg_many S hK hB wf_X11_61 dX11_counted_6 ?_
    refine lv_iload_n S.1 S.2.1 dX11_counted_9 rfl (lv_at hl 1 rfl) ?_
    obtain ⟨b_4, h⟩ := gd h
    refine ml_many (v := (σ.2.1 23 p0.toNatClampNeg)) S hK hB b_4 rfl dX11_counted_10 ?_
    refine lv_goto (tgt := 42) S.1 S.2.1 dX11_counted_11 (by decide) ?_
    cases h
    exact gRetI S.1 S.2.1 hr hlk hB dX11_counted_42
def FX11_count (p0 : Int32) (σ : MS) : Option (Int32 × MS) :=
  (FX11_isIn p0 (0 : Int32) (6 : Int32)).bind fun r_1 =>
  if r_1 = 0 then
    b2 (FX11_no (1 : Int32) (sI σ 0 (0 : Int32))) fun r_3 σ_3 =>
    some (r_3, σ_3)
  else
    b2 (FX11_counted p0 (sI σ 0 (0 : Int32))) fun r_4 σ_4 =>
    some (r_4, σ_4)
abbrev rmX11_count : Room := { frames := 1, cells := 0, slots := 0, locals := 22 }
set_option maxRecDepth 100000 in
set_option maxHeartbeats 4000000 in
theorem kX11_count {l : Launch} {D : va_G} {cI cJ : ClassId} {ad : Nat → Nat} {KS : (Nat → Prop) → State → Prop} (hc : gC KS) {p0 : Int32} {σ σ' : MS} {r : Int32} (h : FX11_count p0 σ = some (r, σ')) : gMet l yX11_count qX11_count rmX11_count 0 0 D vwCl [(cI, .int), (cJ, .long)] KS [.ref (ad 0), .int p0] (MW cI cJ ad σ) (MW cI cJ ad σ') (some (.int r)) := by
  refine gMet.of (cc := cX11_count) (maxL := 2) (ret := (some .int)) (by decide) rfl (Nat.le_of_ble_eq_true rfl) ?_
  intro p e s m args below meth c S hr hlk hnm hK hKS hA hB ls hl
  have hl : lv_has ls 2 [(0, .ref (ad 0)), (1, .int p0)] := hl
  replace S : CallFix p m c cX11_count 2 s args (_ :: wsL_law) RX11 := S
  rw [FX11_count] at h
  refine lv_aload_n S.1 S.2.1 dX11_count_0 rfl (lv_at hl 0 rfl) ?_
  refine lv_iconst (v := (0 : Int32)) S.1 S.2.1 dX11_count_1 (by decide) ?_
  refine mp_thrown S hK hB wf_X11_91 dX11_count_2 (fun H locs hB => ?_)
  refine lv_iload_n S.1 S.2.1 dX11_count_5 rfl (lv_at hl 1 rfl) ?_
  refine lv_iconst (v := (0 : Int32)) S.1 S.2.1 dX11_count_6 (by decide) ?_
  refine lv_bipush (v := (6 : Int32)) S.1 S.2.1 dX11_count_7 (by decide) ?_
  obtain ⟨r_1, e_1, h⟩ := bnd h
  refine mCallSI S hK hc hKS hA (kX11_isIn hc e_1) (cwX11_101 S.2.2.2.2 (rm := rmX11_isIn) rfl rfl ⟨Nat.le_of_ble_eq_true rfl, Nat.le_of_ble_eq_true rfl⟩) hB rfl hl.1 rfl (lv_room (Nat.le_of_ble_eq_true rfl)) dX11_count_9 ⟨Nat.zero_le _, Nat.zero_le _⟩ (fun H locs hB => ?_)
  refine lv_if_eq (tgt := 23) S.1 S.2.1 dX11_count_12 (by decide) (fun c_2 => ?_) (fun c_2 => ?_)
  · replace h := (if_pos c_2).symm.trans h
    refine lv_aload_n S.1 S.2.1 dX11_count_23 rfl (lv_at hl 0 rfl) ?_
    refine lv_iconst (v := (1 : Int32)) S.1 S.2.1 dX11_count_24 (by decide) ?_
    obtain ⟨r_3, σ_3, e_3, h⟩ := b2s h
    refine mCallI S hK hc hKS hA (kX11_no hc e_3) (cwX11_97 S.2.2.2.2 (rm := rmX11_no) rfl rfl ⟨Nat.le_of_ble_eq_true rfl, Nat.le_of_ble_eq_true rfl⟩) hB rfl hl.1 rfl (lv_room (Nat.le_of_ble_eq_true rfl)) dX11_count_25 ⟨Nat.zero_le _, Nat.zero_le _⟩ (fun H locs hB => ?_)
    cases h
    exact gRetI S.1 S.2.1 hr hlk hB dX11_count_28
  · replace h := (if_neg c_2).symm.trans h
    refine lv_aload_n S.1 S.2.1 dX11_count_15 rfl (lv_at hl 0 rfl) ?_
    refine lv_iload_n S.1 S.2.1 dX11_count_16 rfl (lv_at hl 1 rfl) ?_
    obtain ⟨r_4, σ_4, e_4, h⟩ := b2s h
    refine mCallI S hK hc hKS hA (kX11_counted hc e_4) (cwX11_390 S.2.2.2.2 (rm := rmX11_counted) rfl rfl ⟨Nat.le_of_ble_eq_true rfl, Nat.le_of_ble_eq_true rfl⟩) hB rfl hl.1 rfl (lv_room (Nat.le_of_ble_eq_true rfl)) dX11_count_17 ⟨Nat.zero_le _, Nat.zero_le _⟩ (fun H locs hB => ?_)
    refine lv_goto (tgt := 28) S.1 S.2.1 dX11_count_20 (by decide) ?_
    cases h
    exact gRetI S.1 S.2.1 hr hlk hB dX11_count_28
