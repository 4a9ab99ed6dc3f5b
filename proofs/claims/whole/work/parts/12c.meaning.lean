def FX11_bounds_106 (L : Nat)   (σ1 : MS) : Option (Int32 × MS) :=
    b2 (FX11_wrong (5 : Int32) (σ1.1 7) σ1) fun r_8 σ_8 =>
    some (r_8, σ_8)
def FX11_bounds (L : Nat)  (σ : MS) : Option (Int32 × MS) :=
  b2 (FX11_sees L 15 (sI (sI σ 37 (0 : Int32)) 38 (-1 : Int32))) fun r_1 σ_1 =>
  if r_1 = 0 then
    some ((0 : Int32), σ_1)
  else
    b2 (FX11_numberOf L ((σ_1.1 7) + (1 : Int32)) (sI σ_1 7 ((σ_1.1 7) + (1 : Int32)))) fun r_3 σ_3 =>
    if r_3 ≤ (1000 : Int32) then
      b2 (FX11_numberOf L (σ_3.1 7) σ_3) fun r_5 σ_5 =>
      b2 (FX11_numberOf L ((σ_5.1 7) + (2 : Int32)) (sI (sI σ_5 37 r_5) 7 ((σ_5.1 7) + (2 : Int32)))) fun r_6 σ_6 =>
      if (1000 : Int32) < r_6 then
        FX11_bounds_106 L σ_6
      else
        b2 (FX11_numberOf L (σ_6.1 7) σ_6) fun r_9 σ_9 =>
        if (σ_9.1 37) ≤ r_9 then
          b2 (FX11_numberOf L (σ_9.1 7) σ_9) fun r_11 σ_11 =>
          some ((0 : Int32), (sI (sI σ_11 38 r_11) 7 ((σ_11.1 7) + (2 : Int32))))
        else
          FX11_bounds_106 L σ_9
    else
      b2 (FX11_wrong (5 : Int32) (σ_3.1 7) σ_3) fun r_12 σ_12 =>
      some (r_12, σ_12)
abbrev rmX11_bounds : Room := { frames := 6, cells := 0, slots := 0, locals := 130 }
set_option maxRecDepth 100000 in
set_option maxHeartbeats 4000000 in
theorem kX11_bounds {l : Launch} {D : va_G} {cI cJ : ClassId} {ad : Nat → Nat} {adK adV tK : Nat → Nat} {L : Nat}  {σ σ' : MS} {r : Int32} (h : FX11_bounds L  σ = some (r, σ')) : gMet l yX11_bounds qX11_bounds rmX11_bounds 0 0 D vwCl [(cI, .int), (cJ, .long)] (mKS adK adV tK) [.ref (ad 0)] (MW cI cJ ad σ) (MW cI cJ ad σ') (some (.int r)) := by
  refine gMet.of (cc := cX11_bounds) (maxL := 1) (ret := (some .int)) (by decide) rfl (Nat.le_of_ble_eq_true rfl) ?_
  intro p e s m args below meth c S hr hlk hnm hK hKS hA hB ls hl
  have hl : lv_has ls 1 [(0, .ref (ad 0))] := hl
  replace S : CallFix p m c cX11_bounds 1 s args (_ :: wsL_law) RX11 := S
  rw [FX11_bounds] at h
  have P106 : ∀  (σ1 : MS) (H : Heap) (locs : List Loc) (ls : Array Slot), FX11_bounds_106 L  σ1 = some (r, σ') → gB D vwCl (va_A (MW cI cJ ad σ) s.heap.size) s.heap (MW cI cJ ad σ1) [] H locs → lv_has ls 1 [(0, .ref (ad 0))] → W p l e rmX11_bounds s m args below meth c H locs 0 0 (MQ below (gQ D vwCl (MW cI cJ ad σ) (MW cI cJ ad σ') (some (.int r)) s.heap.size) args s 0 0 (va_A (MW cI cJ ad σ) s.heap.size)) (F0 m 106 ls []) := by
    intro   σ1 H locs ls h hB hl
    rw [FX11_bounds_106] at h
    refine lv_aload_n S.1 S.2.1 dX11_bounds_106 rfl (lv_at hl 0 rfl) ?_
    refine lv_iconst (v := (5 : Int32)) S.1 S.2.1 dX11_bounds_107 (by decide) ?_
    refine lv_aload_n S.1 S.2.1 dX11_bounds_108 rfl (lv_at hl 0 rfl) ?_
    refine mg_at S hK hB wf_X11_152 rfl dX11_bounds_109 ?_
    obtain ⟨r_8, σ_8, e_8, h⟩ := b2s h
    refine mCallI S hK mKSc hKS hA (kX11_wrong mKSc e_8) (cwX11_294 S.2.2.2.2 (rm := rmX11_wrong) rfl rfl ⟨Nat.le_of_ble_eq_true rfl, Nat.le_of_ble_eq_true rfl⟩) hB rfl hl.1 rfl (lv_room (Nat.le_of_ble_eq_true rfl)) dX11_bounds_112 ⟨Nat.zero_le _, Nat.zero_le _⟩ (fun H locs hB => ?_)
    cases h
    exact gRetI S.1 S.2.1 hr hlk hB dX11_bounds_115
  refine lv_aload_n S.1 S.2.1 dX11_bounds_0 rfl (lv_at hl 0 rfl) ?_
  refine lv_iconst (v := (0 : Int32)) S.1 S.2.1 dX11_bounds_1 (by decide) ?_
  refine mp_boundA S hK hB wf_X11_325 dX11_bounds_2 (fun H locs hB => ?_)
  refine lv_aload_n S.1 S.2.1 dX11_bounds_5 rfl (lv_at hl 0 rfl) ?_
  refine lv_iconst (v := (-1 : Int32)) S.1 S.2.1 dX11_bounds_6 (by decide) ?_
  refine mp_boundB S hK hB wf_X11_328 dX11_bounds_7 (fun H locs hB => ?_)
  refine lv_aload_n S.1 S.2.1 dX11_bounds_10 rfl (lv_at hl 0 rfl) ?_
  refine va_ldcS S.1 S.2.1 S.2.2.2.1 (hKS.2.1 (RX11, 224, "[", 15) (List.mem_of_getElem? (i := 15) rfl)) dX11_bounds_11 ?_
  obtain ⟨r_1, σ_1, e_1, h⟩ := b2s h
  refine mCallI S hK mKSc hKS hA (kX11_sees e_1) (cwX11_155 S.2.2.2.2 (rm := rmX11_sees) rfl rfl ⟨Nat.le_of_ble_eq_true rfl, Nat.le_of_ble_eq_true rfl⟩) hB rfl hl.1 rfl (lv_room (Nat.le_of_ble_eq_true rfl)) dX11_bounds_13 ⟨Nat.zero_le _, Nat.zero_le _⟩ (fun H locs hB => ?_)
  refine lv_if_ne (tgt := 21) S.1 S.2.1 dX11_bounds_16 (by decide) (fun c_2 => ?_) (fun c_2 => ?_)
  · replace h := (if_neg c_2).symm.trans h
    refine lv_aload_n S.1 S.2.1 dX11_bounds_21 rfl (lv_at hl 0 rfl) ?_
    refine lv_dup S.1 S.2.1 dX11_bounds_22 rfl ?_
    refine mg_at S hK hB wf_X11_152 rfl dX11_bounds_23 ?_
    refine lv_iconst (v := (1 : Int32)) S.1 S.2.1 dX11_bounds_26 (by decide) ?_
    refine lv_iadd S.1 S.2.1 dX11_bounds_27 ?_
    refine mp_at S hK hB wf_X11_152 dX11_bounds_28 (fun H locs hB => ?_)
    refine lv_aload_n S.1 S.2.1 dX11_bounds_31 rfl (lv_at hl 0 rfl) ?_
    refine lv_aload_n S.1 S.2.1 dX11_bounds_32 rfl (lv_at hl 0 rfl) ?_
    refine mg_at (v := ((σ_1.1 7) + (1 : Int32))) S hK hB wf_X11_152 rfl dX11_bounds_33 ?_
    obtain ⟨r_3, σ_3, e_3, h⟩ := b2s h
    refine mCallI S hK mKSc hKS hA (kX11_numberOf mKSc e_3) (cwX11_300 S.2.2.2.2 (rm := rmX11_numberOf) rfl rfl ⟨Nat.le_of_ble_eq_true rfl, Nat.le_of_ble_eq_true rfl⟩) hB rfl hl.1 rfl (lv_room (Nat.le_of_ble_eq_true rfl)) dX11_bounds_36 ⟨Nat.zero_le _, Nat.zero_le _⟩ (fun H locs hB => ?_)
    refine lv_sipush (v := (1000 : Int32)) S.1 S.2.1 dX11_bounds_39 (by decide) ?_
    refine lv_icmp_le (tgt := 55) S.1 S.2.1 dX11_bounds_42 (by decide) (fun c_4 => ?_) (fun c_4 => ?_)
    · replace h := (if_pos c_4).symm.trans h
      refine lv_aload_n S.1 S.2.1 dX11_bounds_55 rfl (lv_at hl 0 rfl) ?_
      refine lv_aload_n S.1 S.2.1 dX11_bounds_56 rfl (lv_at hl 0 rfl) ?_
      refine lv_aload_n S.1 S.2.1 dX11_bounds_57 rfl (lv_at hl 0 rfl) ?_
      refine mg_at S hK hB wf_X11_152 rfl dX11_bounds_58 ?_
      obtain ⟨r_5, σ_5, e_5, h⟩ := b2s h
      refine mCallI S hK mKSc hKS hA (kX11_numberOf mKSc e_5) (cwX11_300 S.2.2.2.2 (rm := rmX11_numberOf) rfl rfl ⟨Nat.le_of_ble_eq_true rfl, Nat.le_of_ble_eq_true rfl⟩) hB rfl hl.1 rfl (lv_room (Nat.le_of_ble_eq_true rfl)) dX11_bounds_61 ⟨Nat.zero_le _, Nat.zero_le _⟩ (fun H locs hB => ?_)
      refine mp_boundA S hK hB wf_X11_325 dX11_bounds_64 (fun H locs hB => ?_)
      refine lv_aload_n S.1 S.2.1 dX11_bounds_67 rfl (lv_at hl 0 rfl) ?_
      refine lv_dup S.1 S.2.1 dX11_bounds_68 rfl ?_
      refine mg_at (v := (σ_5.1 7)) S hK hB wf_X11_152 rfl dX11_bounds_69 ?_
      refine lv_iconst (v := (2 : Int32)) S.1 S.2.1 dX11_bounds_72 (by decide) ?_
      refine lv_iadd S.1 S.2.1 dX11_bounds_73 ?_
      refine mp_at S hK hB wf_X11_152 dX11_bounds_74 (fun H locs hB => ?_)
      refine lv_aload_n S.1 S.2.1 dX11_bounds_77 rfl (lv_at hl 0 rfl) ?_
      refine lv_aload_n S.1 S.2.1 dX11_bounds_78 rfl (lv_at hl 0 rfl) ?_
      refine mg_at (v := ((σ_5.1 7) + (2 : Int32))) S hK hB wf_X11_152 rfl dX11_bounds_79 ?_
      obtain ⟨r_6, σ_6, e_6, h⟩ := b2s h
      refine mCallI S hK mKSc hKS hA (kX11_numberOf mKSc e_6) (cwX11_300 S.2.2.2.2 (rm := rmX11_numberOf) rfl rfl ⟨Nat.le_of_ble_eq_true rfl, Nat.le_of_ble_eq_true rfl⟩) hB rfl hl.1 rfl (lv_room (Nat.le_of_ble_eq_true rfl)) dX11_bounds_82 ⟨Nat.zero_le _, Nat.zero_le _⟩ (fun H locs hB => ?_)
      refine lv_sipush (v := (1000 : Int32)) S.1 S.2.1 dX11_bounds_85 (by decide) ?_
      refine lv_icmp_gt (tgt := 106) S.1 S.2.1 dX11_bounds_88 (by decide) (fun c_7 => ?_) (fun c_7 => ?_)
      · replace h := (if_pos c_7).symm.trans h
        exact P106  _ _ _ _ h hB hl
      · replace h := (if_neg c_7).symm.trans h
        refine lv_aload_n S.1 S.2.1 dX11_bounds_91 rfl (lv_at hl 0 rfl) ?_
        refine lv_aload_n S.1 S.2.1 dX11_bounds_92 rfl (lv_at hl 0 rfl) ?_
        refine mg_at S hK hB wf_X11_152 rfl dX11_bounds_93 ?_
        obtain ⟨r_9, σ_9, e_9, h⟩ := b2s h
        refine mCallI S hK mKSc hKS hA (kX11_numberOf mKSc e_9) (cwX11_300 S.2.2.2.2 (rm := rmX11_numberOf) rfl rfl ⟨Nat.le_of_ble_eq_true rfl, Nat.le_of_ble_eq_true rfl⟩) hB rfl hl.1 rfl (lv_room (Nat.le_of_ble_eq_true rfl)) dX11_bounds_96 ⟨Nat.zero_le _, Nat.zero_le _⟩ (fun H locs hB => ?_)
        refine lv_aload_n S.1 S.2.1 dX11_bounds_99 rfl (lv_at hl 0 rfl) ?_
        refine mg_boundA S hK hB wf_X11_325 rfl dX11_bounds_100 ?_
        refine lv_icmp_ge (tgt := 116) S.1 S.2.1 dX11_bounds_103 (by decide) (fun c_10 => ?_) (fun c_10 => ?_)
        · replace h := (if_pos c_10).symm.trans h
          refine lv_aload_n S.1 S.2.1 dX11_bounds_116 rfl (lv_at hl 0 rfl) ?_
          refine lv_aload_n S.1 S.2.1 dX11_bounds_117 rfl (lv_at hl 0 rfl) ?_
          refine lv_aload_n S.1 S.2.1 dX11_bounds_118 rfl (lv_at hl 0 rfl) ?_
          refine mg_at S hK hB wf_X11_152 rfl dX11_bounds_119 ?_
          obtain ⟨r_11, σ_11, e_11, h⟩ := b2s h
          refine mCallI S hK mKSc hKS hA (kX11_numberOf mKSc e_11) (cwX11_300 S.2.2.2.2 (rm := rmX11_numberOf) rfl rfl ⟨Nat.le_of_ble_eq_true rfl, Nat.le_of_ble_eq_true rfl⟩) hB rfl hl.1 rfl (lv_room (Nat.le_of_ble_eq_true rfl)) dX11_bounds_122 ⟨Nat.zero_le _, Nat.zero_le _⟩ (fun H locs hB => ?_)
          refine mp_boundB S hK hB wf_X11_328 dX11_bounds_125 (fun H locs hB => ?_)
          refine lv_aload_n S.1 S.2.1 dX11_bounds_128 rfl (lv_at hl 0 rfl) ?_
          refine lv_dup S.1 S.2.1 dX11_bounds_129 rfl ?_
          refine mg_at (v := (σ_11.1 7)) S hK hB wf_X11_152 rfl dX11_bounds_130 ?_
          refine lv_iconst (v := (2 : Int32)) S.1 S.2.1 dX11_bounds_133 (by decide) ?_
          refine lv_iadd S.1 S.2.1 dX11_bounds_134 ?_
          refine mp_at S hK hB wf_X11_152 dX11_bounds_135 (fun H locs hB => ?_)
          refine lv_iconst (v := (0 : Int32)) S.1 S.2.1 dX11_bounds_138 (by decide) ?_
          cases h
          exact gRetI S.1 S.2.1 hr hlk hB dX11_bounds_139
        · replace h := (if_neg c_10).symm.trans h
          exact P106  _ _ _ _ h hB hl
    · replace h := (if_neg c_4).symm.trans h
      refine lv_aload_n S.1 S.2.1 dX11_bounds_45 rfl (lv_at hl 0 rfl) ?_
      refine lv_iconst (v := (5 : Int32)) S.1 S.2.1 dX11_bounds_46 (by decide) ?_
      refine lv_aload_n S.1 S.2.1 dX11_bounds_47 rfl (lv_at hl 0 rfl) ?_
      refine mg_at S hK hB wf_X11_152 rfl dX11_bounds_48 ?_
      obtain ⟨r_12, σ_12, e_12, h⟩ := b2s h
      refine mCallI S hK mKSc hKS hA (kX11_wrong mKSc e_12) (cwX11_294 S.2.2.2.2 (rm := rmX11_wrong) rfl rfl ⟨Nat.le_of_ble_eq_true rfl, Nat.le_of_ble_eq_true rfl⟩) hB rfl hl.1 rfl (lv_room (Nat.le_of_ble_eq_true rfl)) dX11_bounds_51 ⟨Nat.zero_le _, Nat.zero_le _⟩ (fun H locs hB => ?_)
      cases h
      exact gRetI S.1 S.2.1 hr hlk hB dX11_bounds_54
  · replace h := (if_pos c_2).symm.trans h
    refine lv_iconst (v := (0 : Int32)) S.1 S.2.1 dX11_bounds_19 (by decide) ?_
    cases h
    exact gRetI S.1 S.2.1 hr hlk hB dX11_bounds_20
def FX11_namedValue_23 (L : Nat)  (x1 : Int32) (σ1 : MS) : Option (Int32 × MS) :=
    b2 (FX11_wrong (2 : Int32) x1 σ1) fun r_3 σ_3 =>
    some (r_3, σ_3)
def FX11_namedValue (L : Nat) (p0 : Int32) (σ : MS) : Option (Int32 × MS) :=
  b2 (FX11_find L p0 σ) fun r_1 σ_1 =>
  if r_1 = (-1 : Int32) then
    FX11_namedValue_23 L p0 σ_1
  else
    if (r_1 < 0 ∨ 44 ≤ r_1.toNatClampNeg) then none else
    if ((2 : Int32) = 0) then none else
    if ((σ_1.2.1 21 r_1.toNatClampNeg) - (σ_1.2.1 21 r_1.toNatClampNeg) / (2 : Int32) * (2 : Int32)) = (1 : Int32) then
      FX11_namedValue_23 L p0 σ_1
    else
      if (r_1 < 0 ∨ 44 ≤ r_1.toNatClampNeg) then none else
      if (σ_1.2.1 21 r_1.toNatClampNeg) = 0 then
        if (r_1 < 0 ∨ 44 ≤ r_1.toNatClampNeg) then none else
        if (p0 < 0 ∨ 1801 ≤ p0.toNatClampNeg) then none else
        b2 (FX11_node (21 : Int32) (σ_1.2.1 22 r_1.toNatClampNeg) (-1 : Int32) (-1 : Int32) (σ_1.2.1 5 p0.toNatClampNeg) σ_1) fun r_15 σ_15 =>
        some (r_15, σ_15)
      else
        if (r_1 < 0 ∨ 44 ≤ r_1.toNatClampNeg) then none else
        if (((24 : Int32) + (σ_1.2.1 22 r_1.toNatClampNeg)) < 0 ∨ 48 ≤ ((24 : Int32) + (σ_1.2.1 22 r_1.toNatClampNeg)).toNatClampNeg) then none else
        if (p0 < 0 ∨ 1801 ≤ p0.toNatClampNeg) then none else
        b2 (FX11_node (22 : Int32) (σ_1.2.1 25 ((24 : Int32) + (σ_1.2.1 22 r_1.toNatClampNeg)).toNatClampNeg) (-1 : Int32) (-1 : Int32) (σ_1.2.1 5 p0.toNatClampNeg) σ_1) fun r_12 σ_12 =>
        some (r_12, σ_12)
abbrev rmX11_namedValue : Room := { frames := 4, cells := 0, slots := 0, locals := 89 }
set_option maxRecDepth 100000 in
set_option maxHeartbeats 4000000 in
theorem kX11_namedValue {l : Launch} {D : va_G} {cI cJ : ClassId} {ad : Nat → Nat} {adK adV tK : Nat → Nat} {L : Nat} {p0 : Int32} {σ σ' : MS} {r : Int32} (h : FX11_namedValue L p0 σ = some (r, σ')) : gMet l yX11_namedValue qX11_namedValue rmX11_namedValue 0 0 D vwCl [(cI, .int), (cJ, .long)] (mKS adK adV tK) [.ref (ad 0), .int p0] (MW cI cJ ad σ) (MW cI cJ ad σ') (some (.int r)) := by
  refine gMet.of (cc := cX11_namedValue) (maxL := 3) (ret := (some .int)) (by decide) rfl (Nat.le_of_ble_eq_true rfl) ?_
  intro p e s m args below meth c S hr hlk hnm hK hKS hA hB ls hl
  have hl : lv_has ls 3 [(0, .ref (ad 0)), (1, .int p0)] := hl
  replace S : CallFix p m c cX11_namedValue 3 s args (_ :: wsL_law) RX11 := S
  rw [FX11_namedValue] at h
  have P23 : ∀ (x1 : Int32) (σ1 : MS) (H : Heap) (locs : List Loc) (ls : Array Slot), FX11_namedValue_23 L x1 σ1 = some (r, σ') → gB D vwCl (va_A (MW cI cJ ad σ) s.heap.size) s.heap (MW cI cJ ad σ1) [] H locs → lv_has ls 3 [(0, .ref (ad 0)), (1, .int x1)] → W p l e rmX11_namedValue s m args below meth c H locs 0 0 (MQ below (gQ D vwCl (MW cI cJ ad σ) (MW cI cJ ad σ') (some (.int r)) s.heap.size) args s 0 0 (va_A (MW cI cJ ad σ) s.heap.size)) (F0 m 23 ls []) := by
    intro  x1 σ1 H locs ls h hB hl
    rw [FX11_namedValue_23] at h
    refine lv_aload_n S.1 S.2.1 dX11_namedValue_23 rfl (lv_at hl 0 rfl) ?_
    refine lv_iconst (v := (2 : Int32)) S.1 S.2.1 dX11_namedValue_24 (by decide) ?_
    refine lv_iload_n S.1 S.2.1 dX11_namedValue_25 rfl (lv_at hl 1 rfl) ?_
    obtain ⟨r_3, σ_3, e_3, h⟩ := b2s h
    refine mCallI S hK mKSc hKS hA (kX11_wrong mKSc e_3) (cwX11_294 S.2.2.2.2 (rm := rmX11_wrong) rfl rfl ⟨Nat.le_of_ble_eq_true rfl, Nat.le_of_ble_eq_true rfl⟩) hB rfl hl.1 rfl (lv_room (Nat.le_of_ble_eq_true rfl)) dX11_namedValue_26 ⟨Nat.zero_le _, Nat.zero_le _⟩ (fun H locs hB => ?_)
    cases h
    exact gRetI S.1 S.2.1 hr hlk hB dX11_namedValue_29
  refine lv_aload_n S.1 S.2.1 dX11_namedValue_0 rfl (lv_at hl 0 rfl) ?_
  refine lv_iload_n S.1 S.2.1 dX11_namedValue_1 rfl (lv_at hl 1 rfl) ?_
  obtain ⟨r_1, σ_1, e_1, h⟩ := b2s h
  refine mCallI S hK mKSc hKS hA (kX11_find mKSc e_1) (cwX11_297 S.2.2.2.2 (rm := rmX11_find) rfl rfl ⟨Nat.le_of_ble_eq_true rfl, Nat.le_of_ble_eq_true rfl⟩) hB rfl hl.1 rfl (lv_room (Nat.le_of_ble_eq_true rfl)) dX11_namedValue_2 ⟨Nat.zero_le _, Nat.zero_le _⟩ (fun H locs hB => ?_)
  refine lv_istore_n (lv' := [(2, .int r_1), (0, .ref (ad 0)), (1, .int p0)]) S.1 S.2.1 dX11_namedValue_5 rfl hl (by decide) rfl (fun ls hl => ?_)
  refine lv_iload_n S.1 S.2.1 dX11_namedValue_6 rfl (lv_at hl 0 rfl) ?_
  refine lv_iconst (v := (-1 : Int32)) S.1 S.2.1 dX11_namedValue_7 (by decide) ?_
  refine lv_icmp_eq (tgt := 23) S.1 S.2.1 dX11_namedValue_8 (by decide) (fun c_2 => ?_) (fun c_2 => ?_)
  · replace h := (if_pos c_2).symm.trans h
    exact P23  _ _ _ _ _ h hB (lv_sub hl [1, 2] rfl)
  · replace h := (if_neg c_2).symm.trans h
    refine lv_aload_n S.1 S.2.1 dX11_namedValue_11 rfl (lv_at hl 1 rfl) ?_
    refine mg_sorts S hK hB wf_X11_55 dX11_namedValue_12 ?_
    refine lv_iload_n S.1 S.2.1 dX11_namedValue_15 rfl (lv_at hl 0 rfl) ?_
    obtain ⟨b_4, h⟩ := gd h
    refine ml_sorts (v := (σ_1.2.1 21 r_1.toNatClampNeg)) S hK hB b_4 rfl dX11_namedValue_16 ?_
    refine lv_iconst (v := (2 : Int32)) S.1 S.2.1 dX11_namedValue_17 (by decide) ?_
    obtain ⟨z_5, h⟩ := gd h
    refine lv_irem S.1 S.2.1 dX11_namedValue_18 z_5 ?_
    refine lv_iconst (v := (1 : Int32)) S.1 S.2.1 dX11_namedValue_19 (by decide) ?_
    refine lv_icmp_ne (tgt := 30) S.1 S.2.1 dX11_namedValue_20 (by decide) (fun c_6 => ?_) (fun c_6 => ?_)
    · replace h := (if_neg c_6).symm.trans h
      refine lv_aload_n S.1 S.2.1 dX11_namedValue_30 rfl (lv_at hl 1 rfl) ?_
      refine mg_sorts S hK hB wf_X11_55 dX11_namedValue_31 ?_
      refine lv_iload_n S.1 S.2.1 dX11_namedValue_34 rfl (lv_at hl 0 rfl) ?_
      obtain ⟨b_7, h⟩ := gd h
      refine ml_sorts (v := (σ_1.2.1 21 r_1.toNatClampNeg)) S hK hB b_7 rfl dX11_namedValue_35 ?_
      refine lv_if_ne (tgt := 62) S.1 S.2.1 dX11_namedValue_36 (by decide) (fun c_8 => ?_) (fun c_8 => ?_)
      · replace h := (if_neg c_8).symm.trans h
        refine lv_aload_n S.1 S.2.1 dX11_namedValue_62 rfl (lv_at hl 1 rfl) ?_
        refine lv_bipush (v := (22 : Int32)) S.1 S.2.1 dX11_namedValue_63 (by decide) ?_
        refine lv_aload_n S.1 S.2.1 dX11_namedValue_65 rfl (lv_at hl 1 rfl) ?_
        refine mg_tops S hK hB wf_X11_67 dX11_namedValue_66 ?_
        refine lv_bipush (v := (24 : Int32)) S.1 S.2.1 dX11_namedValue_69 (by decide) ?_
        refine lv_aload_n S.1 S.2.1 dX11_namedValue_71 rfl (lv_at hl 1 rfl) ?_
        refine mg_numbers S hK hB wf_X11_58 dX11_namedValue_72 ?_
        refine lv_iload_n S.1 S.2.1 dX11_namedValue_75 rfl (lv_at hl 0 rfl) ?_
        obtain ⟨b_9, h⟩ := gd h
        refine ml_numbers (v := (σ_1.2.1 22 r_1.toNatClampNeg)) S hK hB b_9 rfl dX11_namedValue_76 ?_
        refine lv_iadd S.1 S.2.1 dX11_namedValue_77 ?_
        obtain ⟨b_10, h⟩ := gd h
        refine ml_tops (v := (σ_1.2.1 25 ((24 : Int32) + (σ_1.2.1 22 r_1.toNatClampNeg)).toNatClampNeg)) S hK hB b_10 rfl dX11_namedValue_78 ?_
        refine lv_iconst (v := (-1 : Int32)) S.1 S.2.1 dX11_namedValue_79 (by decide) ?_
        refine lv_iconst (v := (-1 : Int32)) S.1 S.2.1 dX11_namedValue_80 (by decide) ?_
        refine lv_aload_n S.1 S.2.1 dX11_namedValue_81 rfl (lv_at hl 1 rfl) ?_
        refine mg_froms S hK hB wf_X11_20 dX11_namedValue_82 ?_
        refine lv_iload_n S.1 S.2.1 dX11_namedValue_85 rfl (lv_at hl 2 rfl) ?_
        obtain ⟨b_11, h⟩ := gd h
        refine ml_froms (v := (σ_1.2.1 5 p0.toNatClampNeg)) S hK hB b_11 rfl dX11_namedValue_86 ?_
        obtain ⟨r_12, σ_12, e_12, h⟩ := b2s h
        refine mCallI S hK mKSc hKS hA (kX11_node mKSc e_12) (cwX11_319 S.2.2.2.2 (rm := rmX11_node) rfl rfl ⟨Nat.le_of_ble_eq_true rfl, Nat.le_of_ble_eq_true rfl⟩) hB rfl hl.1 rfl (lv_room (Nat.le_of_ble_eq_true rfl)) dX11_namedValue_87 ⟨Nat.zero_le _, Nat.zero_le _⟩ (fun H locs hB => ?_)
        cases h
        exact gRetI S.1 S.2.1 hr hlk hB dX11_namedValue_90
      · replace h := (if_pos c_8).symm.trans h
        refine lv_aload_n S.1 S.2.1 dX11_namedValue_39 rfl (lv_at hl 1 rfl) ?_
        refine lv_bipush (v := (21 : Int32)) S.1 S.2.1 dX11_namedValue_40 (by decide) ?_
        refine lv_aload_n S.1 S.2.1 dX11_namedValue_42 rfl (lv_at hl 1 rfl) ?_
        refine mg_numbers S hK hB wf_X11_58 dX11_namedValue_43 ?_
        refine lv_iload_n S.1 S.2.1 dX11_namedValue_46 rfl (lv_at hl 0 rfl) ?_
        obtain ⟨b_13, h⟩ := gd h
        refine ml_numbers (v := (σ_1.2.1 22 r_1.toNatClampNeg)) S hK hB b_13 rfl dX11_namedValue_47 ?_
        refine lv_iconst (v := (-1 : Int32)) S.1 S.2.1 dX11_namedValue_48 (by decide) ?_
        refine lv_iconst (v := (-1 : Int32)) S.1 S.2.1 dX11_namedValue_49 (by decide) ?_
        refine lv_aload_n S.1 S.2.1 dX11_namedValue_50 rfl (lv_at hl 1 rfl) ?_
        refine mg_froms S hK hB wf_X11_20 dX11_namedValue_51 ?_
        refine lv_iload_n S.1 S.2.1 dX11_namedValue_54 rfl (lv_at hl 2 rfl) ?_
        obtain ⟨b_14, h⟩ := gd h
        refine ml_froms (v := (σ_1.2.1 5 p0.toNatClampNeg)) S hK hB b_14 rfl dX11_namedValue_55 ?_
        obtain ⟨r_15, σ_15, e_15, h⟩ := b2s h
        refine mCallI S hK mKSc hKS hA (kX11_node mKSc e_15) (cwX11_319 S.2.2.2.2 (rm := rmX11_node) rfl rfl ⟨Nat.le_of_ble_eq_true rfl, Nat.le_of_ble_eq_true rfl⟩) hB rfl hl.1 rfl (lv_room (Nat.le_of_ble_eq_true rfl)) dX11_namedValue_56 ⟨Nat.zero_le _, Nat.zero_le _⟩ (fun H locs hB => ?_)
        refine lv_goto (tgt := 90) S.1 S.2.1 dX11_namedValue_59 (by decide) ?_
        cases h
        exact gRetI S.1 S.2.1 hr hlk hB dX11_namedValue_90
    · replace h := (if_pos c_6).symm.trans h
      exact P23  _ _ _ _ _ h hB (lv_sub hl [1, 2] rfl)
abbrev rmSC2 (d : Nat) : Room := { frames := d + 20, cells := 0, slots := 0, locals := 40 * d + 400 }
def SC2 (l : Launch) (D : va_G) (cI cJ : ClassId) (ad adK adV tK : Nat → Nat) (d : Nat) (rc : RC) : Prop :=
  (∀  {σ σ' : MS} {r : Int32}, rc 0 0 0 0 σ = some (r, σ') → gMet l yX11_formula qX11_formula (rmSC2 d) 0 0 D vwCl [(cI, .int), (cJ, .long)] (mKS adK adV tK) [.ref (ad 0)] (MW cI cJ ad σ) (MW cI cJ ad σ') (some (.int r))) ∧
  (∀ {w : Nat} {σ σ' : MS} {r : Int32}, rc 1 0 0 w σ = some (r, σ') → gMet l yX11_row qX11_row (rmSC2 d) 0 0 D vwCl [(cI, .int), (cJ, .long)] (mKS adK adV tK) [.ref (ad 0), .ref (adK w)] (MW cI cJ ad σ) (MW cI cJ ad σ') (some (.int r))) ∧
  (∀  {σ σ' : MS} {r : Int32}, rc 2 0 0 0 σ = some (r, σ') → gMet l yX11_since qX11_since (rmSC2 d) 0 0 D vwCl [(cI, .int), (cJ, .long)] (mKS adK adV tK) [.ref (ad 0)] (MW cI cJ ad σ) (MW cI cJ ad σ') (some (.int r))) ∧
  (∀  {σ σ' : MS} {r : Int32}, rc 3 0 0 0 σ = some (r, σ') → gMet l yX11_one qX11_one (rmSC2 d) 0 0 D vwCl [(cI, .int), (cJ, .long)] (mKS adK adV tK) [.ref (ad 0)] (MW cI cJ ad σ) (MW cI cJ ad σ') (some (.int r))) ∧
  (∀ {a : Int32} {b : Int32} {σ σ' : MS} {r : Int32}, rc 4 a b 0 σ = some (r, σ') → gMet l yX11_fronted qX11_fronted (rmSC2 d) 0 0 D vwCl [(cI, .int), (cJ, .long)] (mKS adK adV tK) [.ref (ad 0), .int a, .int b] (MW cI cJ ad σ) (MW cI cJ ad σ') (some (.int r))) ∧
  (∀ {a : Int32} {σ σ' : MS} {r : Int32}, rc 5 a 0 0 σ = some (r, σ') → gMet l yX11_compare qX11_compare (rmSC2 d) 0 0 D vwCl [(cI, .int), (cJ, .long)] (mKS adK adV tK) [.ref (ad 0), .int a] (MW cI cJ ad σ) (MW cI cJ ad σ') (some (.int r))) ∧
  (∀  {σ σ' : MS} {r : Int32}, rc 6 0 0 0 σ = some (r, σ') → gMet l yX11_expression qX11_expression (rmSC2 d) 0 0 D vwCl [(cI, .int), (cJ, .long)] (mKS adK adV tK) [.ref (ad 0)] (MW cI cJ ad σ) (MW cI cJ ad σ') (some (.int r))) ∧
  (∀  {σ σ' : MS} {r : Int32}, rc 7 0 0 0 σ = some (r, σ') → gMet l yX11_product qX11_product (rmSC2 d) 0 0 D vwCl [(cI, .int), (cJ, .long)] (mKS adK adV tK) [.ref (ad 0)] (MW cI cJ ad σ) (MW cI cJ ad σ') (some (.int r))) ∧
  (∀ {a : Int32} {σ σ' : MS} {r : Int32}, rc 8 a 0 0 σ = some (r, σ') → gMet l yX11_twoSided qX11_twoSided (rmSC2 d) 0 0 D vwCl [(cI, .int), (cJ, .long)] (mKS adK adV tK) [.ref (ad 0), .int a] (MW cI cJ ad σ) (MW cI cJ ad σ') (some (.int r))) ∧
  (∀  {σ σ' : MS} {r : Int32}, rc 9 0 0 0 σ = some (r, σ') → gMet l yX11_braces qX11_braces (rmSC2 d) 0 0 D vwCl [(cI, .int), (cJ, .long)] (mKS adK adV tK) [.ref (ad 0)] (MW cI cJ ad σ) (MW cI cJ ad σ') (some (.int r))) ∧
  (∀  {σ σ' : MS} {r : Int32}, rc 10 0 0 0 σ = some (r, σ') → gMet l yX11_factor qX11_factor (rmSC2 d) 0 0 D vwCl [(cI, .int), (cJ, .long)] (mKS adK adV tK) [.ref (ad 0)] (MW cI cJ ad σ) (MW cI cJ ad σ') (some (.int r)))
def FX11_formula (rc : RC) (L : Nat)  (σ : MS) : Option (Int32 × MS) :=
  b2 (rc 1 0 0 11 σ) fun r_1 σ_1 =>
  if r_1 = 0 then
    b2 (FX11_sees L 12 σ_1) fun r_3 σ_3 =>
    if r_3 = 0 then
      some (r_1, σ_3)
    else
      b2 (rc 0 0 0 0 (sI σ_3 7 ((σ_3.1 7) + (1 : Int32)))) fun r_5 σ_5 =>
      if r_5 = 0 then
        if ((σ_3.1 17) < 0 ∨ 1203 ≤ (σ_3.1 17).toNatClampNeg) then none else
        b2 (FX11_node (13 : Int32) (σ_3.1 17) (σ_5.1 17) (-1 : Int32) (σ_5.2.1 15 (σ_3.1 17).toNatClampNeg) σ_5) fun r_8 σ_8 =>
        some (r_8, σ_8)
      else
        some (r_5, σ_5)
  else
    some (r_1, σ_1)
set_option maxRecDepth 100000 in
set_option maxHeartbeats 4000000 in
theorem kX11_formula {l : Launch} {D : va_G} {cI cJ : ClassId} {ad : Nat → Nat} {adK adV tK : Nat → Nat} {L : Nat} {d : Nat} {rc : RC} (hrc : SC2 l D cI cJ ad adK adV tK d rc)  {σ σ' : MS} {r : Int32} (h : FX11_formula rc L  σ = some (r, σ')) : gMet l yX11_formula qX11_formula (rmSC2 (d + 1)) 0 0 D vwCl [(cI, .int), (cJ, .long)] (mKS adK adV tK) [.ref (ad 0)] (MW cI cJ ad σ) (MW cI cJ ad σ') (some (.int r)) := by
  refine gMet.of (cc := cX11_formula) (maxL := 3) (ret := (some .int)) (by decide) rfl (Nat.le_of_ble_eq_true rfl) ?_
  intro p e s m args below meth c S hr hlk hnm hK hKS hA hB ls hl
  have hl : lv_has ls 3 [(0, .ref (ad 0))] := hl
  replace S : CallFix p m c cX11_formula 3 s args (_ :: wsL_law) RX11 := S
  rw [FX11_formula] at h
  refine lv_aload_n S.1 S.2.1 dX11_formula_0 rfl (lv_at hl 0 rfl) ?_
  refine va_ldcS S.1 S.2.1 S.2.2.2.1 (hKS.2.1 (RX11, 204, "or", 11) (List.mem_of_getElem? (i := 11) rfl)) dX11_formula_1 ?_
  obtain ⟨r_1, σ_1, e_1, h⟩ := b2s h
  refine mCallI S hK mKSc hKS hA (hrc.2.1 e_1) (cwX11_315 S.2.2.2.2 (rm := (rmSC2 d)) rfl rfl ⟨by dsimp only [rmSC2]; omega, by dsimp only [rmSC2]; omega⟩) hB rfl hl.1 rfl (lv_room (Nat.le_of_ble_eq_true rfl)) dX11_formula_3 ⟨Nat.zero_le _, Nat.zero_le _⟩ (fun H locs hB => ?_)
  refine lv_istore_n (lv' := [(1, .int r_1), (0, .ref (ad 0))]) S.1 S.2.1 dX11_formula_6 rfl hl (by decide) rfl (fun ls hl => ?_)
  refine lv_iload_n S.1 S.2.1 dX11_formula_7 rfl (lv_at hl 0 rfl) ?_
  refine lv_if_ne (tgt := 20) S.1 S.2.1 dX11_formula_8 (by decide) (fun c_2 => ?_) (fun c_2 => ?_)
  · replace h := (if_neg c_2).symm.trans h
    refine lv_iload_n S.1 S.2.1 dX11_formula_20 rfl (lv_at hl 0 rfl) ?_
    cases h
    exact gRetI S.1 S.2.1 hr hlk hB dX11_formula_21
  · replace h := (if_pos c_2).symm.trans h
    refine lv_aload_n S.1 S.2.1 dX11_formula_11 rfl (lv_at hl 1 rfl) ?_
    refine va_ldcS S.1 S.2.1 S.2.2.2.1 (hKS.2.1 (RX11, 209, "implies", 12) (List.mem_of_getElem? (i := 12) rfl)) dX11_formula_12 ?_
    obtain ⟨r_3, σ_3, e_3, h⟩ := b2s h
    refine mCallI S hK mKSc hKS hA (kX11_sees e_3) (cwX11_155 S.2.2.2.2 (rm := rmX11_sees) rfl rfl ⟨by dsimp only [rmSC2, rmX11_sees]; omega, by dsimp only [rmSC2, rmX11_sees]; omega⟩) hB rfl hl.1 rfl (lv_room (Nat.le_of_ble_eq_true rfl)) dX11_formula_14 ⟨Nat.zero_le _, Nat.zero_le _⟩ (fun H locs hB => ?_)
    refine lv_if_ne (tgt := 22) S.1 S.2.1 dX11_formula_17 (by decide) (fun c_4 => ?_) (fun c_4 => ?_)
    · replace h := (if_neg c_4).symm.trans h
      refine lv_aload_n S.1 S.2.1 dX11_formula_22 rfl (lv_at hl 1 rfl) ?_
      refine mg_made S hK hB wf_X11_309 rfl dX11_formula_23 ?_
      refine lv_istore_n (lv' := [(2, .int (σ_3.1 17)), (1, .int r_1), (0, .ref (ad 0))]) S.1 S.2.1 dX11_formula_26 rfl hl (by decide) rfl (fun ls hl => ?_)
      refine lv_aload_n S.1 S.2.1 dX11_formula_27 rfl (lv_at hl 2 rfl) ?_
      refine lv_dup S.1 S.2.1 dX11_formula_28 rfl ?_
      refine mg_at S hK hB wf_X11_152 rfl dX11_formula_29 ?_
      refine lv_iconst (v := (1 : Int32)) S.1 S.2.1 dX11_formula_32 (by decide) ?_
      refine lv_iadd S.1 S.2.1 dX11_formula_33 ?_
      refine mp_at S hK hB wf_X11_152 dX11_formula_34 (fun H locs hB => ?_)
      refine lv_aload_n S.1 S.2.1 dX11_formula_37 rfl (lv_at hl 2 rfl) ?_
      obtain ⟨r_5, σ_5, e_5, h⟩ := b2s h
      refine mCallI S hK mKSc hKS hA (hrc.1 e_5) (cwX11_306 S.2.2.2.2 (rm := (rmSC2 d)) rfl rfl ⟨by dsimp only [rmSC2]; omega, by dsimp only [rmSC2]; omega⟩) hB rfl hl.1 rfl (lv_room (Nat.le_of_ble_eq_true rfl)) dX11_formula_38 ⟨Nat.zero_le _, Nat.zero_le _⟩ (fun H locs hB => ?_)
      refine lv_istore_n (lv' := [(1, .int r_5), (2, .int (σ_3.1 17)), (0, .ref (ad 0))]) S.1 S.2.1 dX11_formula_41 rfl hl (by decide) rfl (fun ls hl => ?_)
      refine lv_iload_n S.1 S.2.1 dX11_formula_42 rfl (lv_at hl 0 rfl) ?_
      refine lv_if_eq (tgt := 50) S.1 S.2.1 dX11_formula_43 (by decide) (fun c_6 => ?_) (fun c_6 => ?_)
      · replace h := (if_pos c_6).symm.trans h
        refine lv_aload_n S.1 S.2.1 dX11_formula_50 rfl (lv_at hl 2 rfl) ?_
        refine lv_bipush (v := (13 : Int32)) S.1 S.2.1 dX11_formula_51 (by decide) ?_
        refine lv_iload_n S.1 S.2.1 dX11_formula_53 rfl (lv_at hl 1 rfl) ?_
        refine lv_aload_n S.1 S.2.1 dX11_formula_54 rfl (lv_at hl 2 rfl) ?_
        refine mg_made S hK hB wf_X11_309 rfl dX11_formula_55 ?_
        refine lv_iconst (v := (-1 : Int32)) S.1 S.2.1 dX11_formula_58 (by decide) ?_
        refine lv_aload_n S.1 S.2.1 dX11_formula_59 rfl (lv_at hl 2 rfl) ?_
        refine mg_place S hK hB wf_X11_44 dX11_formula_60 ?_
        refine lv_iload_n S.1 S.2.1 dX11_formula_63 rfl (lv_at hl 1 rfl) ?_
        obtain ⟨b_7, h⟩ := gd h
        refine ml_place (v := (σ_5.2.1 15 (σ_3.1 17).toNatClampNeg)) S hK hB b_7 rfl dX11_formula_64 ?_
        obtain ⟨r_8, σ_8, e_8, h⟩ := b2s h
        refine mCallI S hK mKSc hKS hA (kX11_node mKSc e_8) (cwX11_319 S.2.2.2.2 (rm := rmX11_node) rfl rfl ⟨by dsimp only [rmSC2, rmX11_node]; omega, by dsimp only [rmSC2, rmX11_node]; omega⟩) hB rfl hl.1 rfl (lv_room (Nat.le_of_ble_eq_true rfl)) dX11_formula_65 ⟨Nat.zero_le _, Nat.zero_le _⟩ (fun H locs hB => ?_)
        cases h
        exact gRetI S.1 S.2.1 hr hlk hB dX11_formula_68
      · replace h := (if_neg c_6).symm.trans h
        refine lv_iload_n S.1 S.2.1 dX11_formula_46 rfl (lv_at hl 0 rfl) ?_
        refine lv_goto (tgt := 68) S.1 S.2.1 dX11_formula_47 (by decide) ?_
        cases h
        exact gRetI S.1 S.2.1 hr hlk hB dX11_formula_68
    · replace h := (if_pos c_4).symm.trans h
      refine lv_iload_n S.1 S.2.1 dX11_formula_20 rfl (lv_at hl 0 rfl) ?_
      cases h
      exact gRetI S.1 S.2.1 hr hlk hB dX11_formula_21
def FX11_row_94 (rc : RC) (L : Nat) (w : Nat) (k32 : Int32 → Int32 → MS → Option (Int32 × MS)) (x2 : Int32) (x3 : Int32) (x4 : Int32) (y1 : Int32) (σ1 : MS) : Option (Int32 × MS) :=
    if (x4 < 0 ∨ 1203 ≤ x4.toNatClampNeg) then none else
    b2 (FX11_node y1 x4 (σ1.1 17) (-1 : Int32) (σ1.2.1 15 x4.toNatClampNeg) σ1) fun r_13 σ_13 =>
    k32 x2 x3 σ_13
def FX11_row_77 (rc : RC) (L : Nat) (w : Nat) (k32 : Int32 → Int32 → MS → Option (Int32 × MS)) (x2 : Int32) (x4 : Int32) (y0 : Int32) (σ1 : MS) : Option (Int32 × MS) :=
    if y0 = 0 then
      if x2 = 0 then
        FX11_row_94 rc L w k32 x2 y0 x4 (11 : Int32) σ1
      else
        FX11_row_94 rc L w k32 x2 y0 x4 (12 : Int32) σ1
    else
      k32 x2 y0 σ1
def FX11_row_32 (rc : RC) (L : Nat) (w : Nat)  : Nat → Int32 → Int32 → MS → Option (Int32 × MS)
  | 0, _, _, _ => none
  | n+1, x2, x3, σ1 =>
    if x3 = 0 then
      b2 (FX11_sees L w σ1) fun r_6 σ_6 =>
      if r_6 = 0 then
        some (x3, σ_6)
      else
        if x2 = 0 then
          b2 (rc 2 0 0 0 (sI σ_6 7 ((σ_6.1 7) + (1 : Int32)))) fun r_9 σ_9 =>
          FX11_row_77 rc L w (FX11_row_32 rc L w n) x2 (σ_6.1 17) r_9 σ_9
        else
          b2 (rc 1 0 0 13 (sI σ_6 7 ((σ_6.1 7) + (1 : Int32)))) fun r_14 σ_14 =>
          FX11_row_77 rc L w (FX11_row_32 rc L w n) x2 (σ_6.1 17) r_14 σ_14
    else
      some (x3, σ1)
def FX11_row_13 (rc : RC) (L : Nat) (w : Nat)  (y0 : Int32) (σ1 : MS) : Option (Int32 × MS) :=
    if y0 = 0 then
      b2 (rc 2 0 0 0 σ1) fun r_4 σ_4 =>
      FX11_row_32 rc L w L y0 r_4 σ_4
    else
      b2 (rc 1 0 0 13 σ1) fun r_15 σ_15 =>
      FX11_row_32 rc L w L y0 r_15 σ_15
def FX11_row (rc : RC) (L : Nat) (w : Nat) (σ : MS) : Option (Int32 × MS) :=
  if ¬ (w < 53) then none else
  (FJ0_length_8abf5 w).bind fun r_1 =>
  if r_1 = (2 : Int32) then
    FX11_row_13 rc L w (1 : Int32) σ
  else
    FX11_row_13 rc L w (0 : Int32) σ
set_option maxRecDepth 100000 in
set_option maxHeartbeats 4000000 in
theorem kX11_row {l : Launch} {D : va_G} {cI cJ : ClassId} {ad : Nat → Nat} {adK adV tK : Nat → Nat} {L : Nat} {d : Nat} {rc : RC} (hrc : SC2 l D cI cJ ad adK adV tK d rc) {w : Nat} {σ σ' : MS} {r : Int32} (h : FX11_row rc L w σ = some (r, σ')) : gMet l yX11_row qX11_row (rmSC2 (d + 1)) 0 0 D vwCl [(cI, .int), (cJ, .long)] (mKS adK adV tK) [.ref (ad 0), .ref (adK w)] (MW cI cJ ad σ) (MW cI cJ ad σ') (some (.int r)) := by
  refine gMet.of (cc := cX11_row) (maxL := 5) (ret := (some .int)) (by decide) rfl (Nat.le_of_ble_eq_true rfl) ?_
  intro p e s m args below meth c S hr hlk hnm hK hKS hA hB ls hl
  have hl : lv_has ls 5 [(0, .ref (ad 0)), (1, .ref (adK w))] := hl
  replace S : CallFix p m c cX11_row 5 s args (_ :: wsL_law) RX11 := S
  rw [FX11_row] at h
  obtain ⟨hw, h⟩ := gd h
  replace hw := Decidable.not_not.mp hw
  have P94 : ∀ (k32 : Int32 → Int32 → MS → Option (Int32 × MS)) (hk32 : ∀ (x2 : Int32) (x3 : Int32) (σ1 : MS) (H : Heap) (locs : List Loc) (ls : Array Slot), k32 x2 x3 σ1 = some (r, σ') → gB D vwCl (va_A (MW cI cJ ad σ) s.heap.size) s.heap (MW cI cJ ad σ1) [] H locs → lv_has ls 5 [(0, .ref (ad 0)), (1, .ref (adK w)), (2, .int x2), (3, .int x3)] → W p l e (rmSC2 (d + 1)) s m args below meth c H locs 0 0 (MQ below (gQ D vwCl (MW cI cJ ad σ) (MW cI cJ ad σ') (some (.int r)) s.heap.size) args s 0 0 (va_A (MW cI cJ ad σ) s.heap.size)) (F0 m 32 ls [])), ∀ (x2 : Int32) (x3 : Int32) (x4 : Int32) (y1 : Int32) (σ1 : MS) (H : Heap) (locs : List Loc) (ls : Array Slot), FX11_row_94 rc L w k32 x2 x3 x4 y1 σ1 = some (r, σ') → gB D vwCl (va_A (MW cI cJ ad σ) s.heap.size) s.heap (MW cI cJ ad σ1) [] H locs → lv_has ls 5 [(0, .ref (ad 0)), (1, .ref (adK w)), (2, .int x2), (3, .int x3), (4, .int x4)] → W p l e (rmSC2 (d + 1)) s m args below meth c H locs 0 0 (MQ below (gQ D vwCl (MW cI cJ ad σ) (MW cI cJ ad σ') (some (.int r)) s.heap.size) args s 0 0 (va_A (MW cI cJ ad σ) s.heap.size)) (F0 m 94 ls [.int y1, .ref (ad 0)]) := by
    intro k32 hk32 x2 x3 x4 y1 σ1 H locs ls h hB hl
    rw [FX11_row_94] at h
    refine lv_iload S.1 S.2.1 dX11_row_94 (lv_at hl 4 rfl) ?_
    refine lv_aload_n S.1 S.2.1 dX11_row_96 rfl (lv_at hl 0 rfl) ?_
    refine mg_made S hK hB wf_X11_309 rfl dX11_row_97 ?_
    refine lv_iconst (v := (-1 : Int32)) S.1 S.2.1 dX11_row_100 (by decide) ?_
    refine lv_aload_n S.1 S.2.1 dX11_row_101 rfl (lv_at hl 0 rfl) ?_
    refine mg_place S hK hB wf_X11_44 dX11_row_102 ?_
    refine lv_iload S.1 S.2.1 dX11_row_105 (lv_at hl 4 rfl) ?_
    obtain ⟨b_12, h⟩ := gd h
    refine ml_place (v := (σ1.2.1 15 x4.toNatClampNeg)) S hK hB b_12 rfl dX11_row_107 ?_
    obtain ⟨r_13, σ_13, e_13, h⟩ := b2s h
    refine mCallI S hK mKSc hKS hA (kX11_node mKSc e_13) (cwX11_319 S.2.2.2.2 (rm := rmX11_node) rfl rfl ⟨by dsimp only [rmSC2, rmX11_node]; omega, by dsimp only [rmSC2, rmX11_node]; omega⟩) hB rfl hl.1 rfl (lv_room (Nat.le_of_ble_eq_true rfl)) dX11_row_108 ⟨Nat.zero_le _, Nat.zero_le _⟩ (fun H locs hB => ?_)
    refine lv_pop S.1 S.2.1 dX11_row_111 rfl ?_
    refine lv_goto (tgt := 32) S.1 S.2.1 dX11_row_112 (by decide) ?_
    exact hk32 _ _ _ _ _ _ h hB (lv_sub hl [0, 1, 2, 3] rfl)
  have P77 : ∀ (k32 : Int32 → Int32 → MS → Option (Int32 × MS)) (hk32 : ∀ (x2 : Int32) (x3 : Int32) (σ1 : MS) (H : Heap) (locs : List Loc) (ls : Array Slot), k32 x2 x3 σ1 = some (r, σ') → gB D vwCl (va_A (MW cI cJ ad σ) s.heap.size) s.heap (MW cI cJ ad σ1) [] H locs → lv_has ls 5 [(0, .ref (ad 0)), (1, .ref (adK w)), (2, .int x2), (3, .int x3)] → W p l e (rmSC2 (d + 1)) s m args below meth c H locs 0 0 (MQ below (gQ D vwCl (MW cI cJ ad σ) (MW cI cJ ad σ') (some (.int r)) s.heap.size) args s 0 0 (va_A (MW cI cJ ad σ) s.heap.size)) (F0 m 32 ls [])), ∀ (x2 : Int32) (x4 : Int32) (y0 : Int32) (σ1 : MS) (H : Heap) (locs : List Loc) (ls : Array Slot), FX11_row_77 rc L w k32 x2 x4 y0 σ1 = some (r, σ') → gB D vwCl (va_A (MW cI cJ ad σ) s.heap.size) s.heap (MW cI cJ ad σ1) [] H locs → lv_has ls 5 [(0, .ref (ad 0)), (1, .ref (adK w)), (2, .int x2), (4, .int x4)] → W p l e (rmSC2 (d + 1)) s m args below meth c H locs 0 0 (MQ below (gQ D vwCl (MW cI cJ ad σ) (MW cI cJ ad σ') (some (.int r)) s.heap.size) args s 0 0 (va_A (MW cI cJ ad σ) s.heap.size)) (F0 m 77 ls [.int y0]) := by
    intro k32 hk32 x2 x4 y0 σ1 H locs ls h hB hl
    rw [FX11_row_77] at h
    refine lv_istore_n (lv' := [(3, .int y0), (0, .ref (ad 0)), (1, .ref (adK w)), (2, .int x2), (4, .int x4)]) S.1 S.2.1 dX11_row_77 rfl hl (by decide) rfl (fun ls hl => ?_)
    refine lv_iload_n S.1 S.2.1 dX11_row_78 rfl (lv_at hl 0 rfl) ?_
    refine lv_if_ne (tgt := 112) S.1 S.2.1 dX11_row_79 (by decide) (fun c_10 => ?_) (fun c_10 => ?_)
    · replace h := (if_neg c_10).symm.trans h
      refine lv_goto (tgt := 32) S.1 S.2.1 dX11_row_112 (by decide) ?_
      exact hk32 _ _ _ _ _ _ h hB (lv_sub hl [1, 2, 3, 0] rfl)
    · replace h := (if_pos c_10).symm.trans h
      refine lv_aload_n S.1 S.2.1 dX11_row_82 rfl (lv_at hl 1 rfl) ?_
      refine lv_iload_n S.1 S.2.1 dX11_row_83 rfl (lv_at hl 3 rfl) ?_
      refine lv_if_eq (tgt := 92) S.1 S.2.1 dX11_row_84 (by decide) (fun c_11 => ?_) (fun c_11 => ?_)
      · replace h := (if_pos c_11).symm.trans h
        refine lv_bipush (v := (11 : Int32)) S.1 S.2.1 dX11_row_92 (by decide) ?_
        exact P94 k32 hk32 _ _ _ _ _ _ _ _ h hB (lv_sub hl [1, 2, 3, 0, 4] rfl)
      · replace h := (if_neg c_11).symm.trans h
        refine lv_bipush (v := (12 : Int32)) S.1 S.2.1 dX11_row_87 (by decide) ?_
        refine lv_goto (tgt := 94) S.1 S.2.1 dX11_row_89 (by decide) ?_
        exact P94 k32 hk32 _ _ _ _ _ _ _ _ h hB (lv_sub hl [1, 2, 3, 0, 4] rfl)
  have P32 : ∀  (n : Nat), ∀ (x2 : Int32) (x3 : Int32) (σ1 : MS) (H : Heap) (locs : List Loc) (ls : Array Slot), FX11_row_32 rc L w n x2 x3 σ1 = some (r, σ') → gB D vwCl (va_A (MW cI cJ ad σ) s.heap.size) s.heap (MW cI cJ ad σ1) [] H locs → lv_has ls 5 [(0, .ref (ad 0)), (1, .ref (adK w)), (2, .int x2), (3, .int x3)] → W p l e (rmSC2 (d + 1)) s m args below meth c H locs 0 0 (MQ below (gQ D vwCl (MW cI cJ ad σ) (MW cI cJ ad σ') (some (.int r)) s.heap.size) args s 0 0 (va_A (MW cI cJ ad σ) s.heap.size)) (F0 m 32 ls []) := by
    intro n
    induction n with
    | zero => intro x2 x3 σ1 H locs ls h; simp only [FX11_row_32] at h; cases h
    | succ n ih =>
      intro x2 x3 σ1 H locs ls h hB hl
      rw [FX11_row_32] at h
      refine lv_iload_n S.1 S.2.1 dX11_row_32 rfl (lv_at hl 3 rfl) ?_
      refine lv_if_ne (tgt := 115) S.1 S.2.1 dX11_row_33 (by decide) (fun c_5 => ?_) (fun c_5 => ?_)
      · replace h := (if_neg c_5).symm.trans h
        refine lv_iload_n S.1 S.2.1 dX11_row_115 rfl (lv_at hl 3 rfl) ?_
        cases h
        exact gRetI S.1 S.2.1 hr hlk hB dX11_row_116
      · replace h := (if_pos c_5).symm.trans h
        refine lv_aload_n S.1 S.2.1 dX11_row_36 rfl (lv_at hl 0 rfl) ?_
        refine lv_aload_n S.1 S.2.1 dX11_row_37 rfl (lv_at hl 1 rfl) ?_
        obtain ⟨r_6, σ_6, e_6, h⟩ := b2s h
        refine mCallI S hK mKSc hKS hA (kX11_sees e_6) (cwX11_155 S.2.2.2.2 (rm := rmX11_sees) rfl rfl ⟨by dsimp only [rmSC2, rmX11_sees]; omega, by dsimp only [rmSC2, rmX11_sees]; omega⟩) hB rfl hl.1 rfl (lv_room (Nat.le_of_ble_eq_true rfl)) dX11_row_38 ⟨Nat.zero_le _, Nat.zero_le _⟩ (fun H locs hB => ?_)
        refine lv_if_eq (tgt := 115) S.1 S.2.1 dX11_row_41 (by decide) (fun c_7 => ?_) (fun c_7 => ?_)
        · replace h := (if_pos c_7).symm.trans h
          refine lv_iload_n S.1 S.2.1 dX11_row_115 rfl (lv_at hl 3 rfl) ?_
          cases h
          exact gRetI S.1 S.2.1 hr hlk hB dX11_row_116
        · replace h := (if_neg c_7).symm.trans h
          refine lv_aload_n S.1 S.2.1 dX11_row_44 rfl (lv_at hl 0 rfl) ?_
          refine mg_made S hK hB wf_X11_309 rfl dX11_row_45 ?_
          refine lv_istore (lv' := [(4, .int (σ_6.1 17)), (0, .ref (ad 0)), (1, .ref (adK w)), (2, .int x2), (3, .int x3)]) S.1 S.2.1 dX11_row_48 hl (by decide) rfl (fun ls hl => ?_)
          refine lv_aload_n S.1 S.2.1 dX11_row_50 rfl (lv_at hl 1 rfl) ?_
          refine lv_dup S.1 S.2.1 dX11_row_51 rfl ?_
          refine mg_at S hK hB wf_X11_152 rfl dX11_row_52 ?_
          refine lv_iconst (v := (1 : Int32)) S.1 S.2.1 dX11_row_55 (by decide) ?_
          refine lv_iadd S.1 S.2.1 dX11_row_56 ?_
          refine mp_at S hK hB wf_X11_152 dX11_row_57 (fun H locs hB => ?_)
          refine lv_iload_n S.1 S.2.1 dX11_row_60 rfl (lv_at hl 3 rfl) ?_
          refine lv_if_eq (tgt := 73) S.1 S.2.1 dX11_row_61 (by decide) (fun c_8 => ?_) (fun c_8 => ?_)
          · replace h := (if_pos c_8).symm.trans h
            refine lv_aload_n S.1 S.2.1 dX11_row_73 rfl (lv_at hl 1 rfl) ?_
            obtain ⟨r_9, σ_9, e_9, h⟩ := b2s h
            refine mCallI S hK mKSc hKS hA (hrc.2.2.1 e_9) (cwX11_323 S.2.2.2.2 (rm := (rmSC2 d)) rfl rfl ⟨by dsimp only [rmSC2]; omega, by dsimp only [rmSC2]; omega⟩) hB rfl hl.1 rfl (lv_room (Nat.le_of_ble_eq_true rfl)) dX11_row_74 ⟨Nat.zero_le _, Nat.zero_le _⟩ (fun H locs hB => ?_)
            exact P77 (FX11_row_32 rc L w n) ih _ _ _ _ _ _ _ h hB (lv_sub hl [1, 2, 3, 0] rfl)
          · replace h := (if_neg c_8).symm.trans h
            refine lv_aload_n S.1 S.2.1 dX11_row_64 rfl (lv_at hl 1 rfl) ?_
            refine va_ldcS S.1 S.2.1 S.2.2.2.1 (hKS.2.1 (RX11, 211, "and", 13) (List.mem_of_getElem? (i := 13) rfl)) dX11_row_65 ?_
            obtain ⟨r_14, σ_14, e_14, h⟩ := b2s h
            refine mCallI S hK mKSc hKS hA (hrc.2.1 e_14) (cwX11_315 S.2.2.2.2 (rm := (rmSC2 d)) rfl rfl ⟨by dsimp only [rmSC2]; omega, by dsimp only [rmSC2]; omega⟩) hB rfl hl.1 rfl (lv_room (Nat.le_of_ble_eq_true rfl)) dX11_row_67 ⟨Nat.zero_le _, Nat.zero_le _⟩ (fun H locs hB => ?_)
            refine lv_goto (tgt := 77) S.1 S.2.1 dX11_row_70 (by decide) ?_
            exact P77 (FX11_row_32 rc L w n) ih _ _ _ _ _ _ _ h hB (lv_sub hl [1, 2, 3, 0] rfl)
  have P13 : ∀ (y0 : Int32) (σ1 : MS) (H : Heap) (locs : List Loc) (ls : Array Slot), FX11_row_13 rc L w y0 σ1 = some (r, σ') → gB D vwCl (va_A (MW cI cJ ad σ) s.heap.size) s.heap (MW cI cJ ad σ1) [] H locs → lv_has ls 5 [(0, .ref (ad 0)), (1, .ref (adK w))] → W p l e (rmSC2 (d + 1)) s m args below meth c H locs 0 0 (MQ below (gQ D vwCl (MW cI cJ ad σ) (MW cI cJ ad σ') (some (.int r)) s.heap.size) args s 0 0 (va_A (MW cI cJ ad σ) s.heap.size)) (F0 m 13 ls [.int y0]) := by
    intro  y0 σ1 H locs ls h hB hl
    rw [FX11_row_13] at h
    refine lv_istore_n (lv' := [(2, .int y0), (0, .ref (ad 0)), (1, .ref (adK w))]) S.1 S.2.1 dX11_row_13 rfl hl (by decide) rfl (fun ls hl => ?_)
    refine lv_iload_n S.1 S.2.1 dX11_row_14 rfl (lv_at hl 0 rfl) ?_
    refine lv_if_eq (tgt := 27) S.1 S.2.1 dX11_row_15 (by decide) (fun c_3 => ?_) (fun c_3 => ?_)
    · replace h := (if_pos c_3).symm.trans h
      refine lv_aload_n S.1 S.2.1 dX11_row_27 rfl (lv_at hl 1 rfl) ?_
      obtain ⟨r_4, σ_4, e_4, h⟩ := b2s h
      refine mCallI S hK mKSc hKS hA (hrc.2.2.1 e_4) (cwX11_323 S.2.2.2.2 (rm := (rmSC2 d)) rfl rfl ⟨by dsimp only [rmSC2]; omega, by dsimp only [rmSC2]; omega⟩) hB rfl hl.1 rfl (lv_room (Nat.le_of_ble_eq_true rfl)) dX11_row_28 ⟨Nat.zero_le _, Nat.zero_le _⟩ (fun H locs hB => ?_)
      refine lv_istore_n (lv' := [(3, .int r_4), (2, .int y0), (0, .ref (ad 0)), (1, .ref (adK w))]) S.1 S.2.1 dX11_row_31 rfl hl (by decide) rfl (fun ls hl => ?_)
      exact P32  L _ _ _ _ _ _ h hB (lv_sub hl [2, 3, 1, 0] rfl)
    · replace h := (if_neg c_3).symm.trans h
      refine lv_aload_n S.1 S.2.1 dX11_row_18 rfl (lv_at hl 1 rfl) ?_
      refine va_ldcS S.1 S.2.1 S.2.2.2.1 (hKS.2.1 (RX11, 211, "and", 13) (List.mem_of_getElem? (i := 13) rfl)) dX11_row_19 ?_
      obtain ⟨r_15, σ_15, e_15, h⟩ := b2s h
      refine mCallI S hK mKSc hKS hA (hrc.2.1 e_15) (cwX11_315 S.2.2.2.2 (rm := (rmSC2 d)) rfl rfl ⟨by dsimp only [rmSC2]; omega, by dsimp only [rmSC2]; omega⟩) hB rfl hl.1 rfl (lv_room (Nat.le_of_ble_eq_true rfl)) dX11_row_21 ⟨Nat.zero_le _, Nat.zero_le _⟩ (fun H locs hB => ?_)
      refine lv_goto (tgt := 31) S.1 S.2.1 dX11_row_24 (by decide) ?_
      refine lv_istore_n (lv' := [(3, .int r_15), (2, .int y0), (0, .ref (ad 0)), (1, .ref (adK w))]) S.1 S.2.1 dX11_row_31 rfl hl (by decide) rfl (fun ls hl => ?_)
      exact P32  L _ _ _ _ _ _ h hB (lv_sub hl [2, 3, 1, 0] rfl)
  refine lv_aload_n S.1 S.2.1 dX11_row_0 rfl (lv_at hl 1 rfl) ?_
  obtain ⟨r_1, e_1, h⟩ := bnd h
  refine mCallTI S hK mKSc hKS hA (kJ0_length_8abf5 hw e_1) (cwX11_131 S.2.2.2.2 (rm := rmJ0_length_8abf5) rfl rfl ⟨by dsimp only [rmJ0_length_8abf5, rmSC2]; omega, by dsimp only [rmJ0_length_8abf5, rmSC2]; omega⟩) (vk_recv hKS.1 hw hB.2.2) hB rfl hl.1 rfl (lv_room (Nat.le_of_ble_eq_true rfl)) dX11_row_1 ⟨Nat.zero_le _, Nat.zero_le _⟩ (fun H locs hB => ?_)
  refine lv_iconst (v := (2 : Int32)) S.1 S.2.1 dX11_row_4 (by decide) ?_
  refine lv_icmp_ne (tgt := 12) S.1 S.2.1 dX11_row_5 (by decide) (fun c_2 => ?_) (fun c_2 => ?_)
  · replace h := (if_neg c_2).symm.trans h
    refine lv_iconst (v := (0 : Int32)) S.1 S.2.1 dX11_row_12 (by decide) ?_
    exact P13  _ _ _ _ _ h hB hl
  · replace h := (if_pos c_2).symm.trans h
    refine lv_iconst (v := (1 : Int32)) S.1 S.2.1 dX11_row_8 (by decide) ?_
    refine lv_goto (tgt := 13) S.1 S.2.1 dX11_row_9 (by decide) ?_
    exact P13  _ _ _ _ _ h hB hl
def FX11_since_66 (rc : RC) (L : Nat)  (x1 : Int32) (x2 : Int32) (x3 : Int32) (x4 : Int32) (x5 : Int32) (σ1 : MS) : Option (Int32 × MS) :=
    if x2 = 0 then
      if (x1 < 0 ∨ 1801 ≤ x1.toNatClampNeg) then none else
      b2 (FX11_node (10 : Int32) x3 (σ1.1 17) (-1 : Int32) (σ1.2.1 5 x1.toNatClampNeg) σ1) fun r_9 σ_9 =>
      if ((σ_9.1 17) < 0 ∨ 1203 ≤ (σ_9.1 17).toNatClampNeg) then none else
      if ((σ_9.1 17) < 0 ∨ 1203 ≤ (σ_9.1 17).toNatClampNeg) then none else
      some ((0 : Int32), (sA (sA σ_9 13 (upd (σ_9.2.1 13) (σ_9.1 17).toNatClampNeg x4)) 14 (upd (σ_9.2.1 14) (σ_9.1 17).toNatClampNeg x5)))
    else
      some (x2, σ1)
def FX11_since (rc : RC) (L : Nat)  (σ : MS) : Option (Int32 × MS) :=
  b2 (rc 3 0 0 0 σ) fun r_1 σ_1 =>
  if r_1 = 0 then
    b2 (FX11_sees L 14 σ_1) fun r_3 σ_3 =>
    if r_3 = 0 then
      some (r_1, σ_3)
    else
      b2 (FX11_bounds L (sI σ_3 7 ((σ_3.1 7) + (1 : Int32)))) fun r_5 σ_5 =>
      if r_5 = 0 then
        b2 (rc 3 0 0 0 σ_5) fun r_12 σ_12 =>
        FX11_since_66 rc L (σ.1 7) r_12 (σ_3.1 17) (σ_5.1 37) (σ_5.1 38) σ_12
      else
        FX11_since_66 rc L (σ.1 7) r_5 (σ_3.1 17) (σ_5.1 37) (σ_5.1 38) σ_5
  else
    some (r_1, σ_1)
set_option maxRecDepth 100000 in
set_option maxHeartbeats 4000000 in
theorem kX11_since {l : Launch} {D : va_G} {cI cJ : ClassId} {ad : Nat → Nat} {adK adV tK : Nat → Nat} {L : Nat} {d : Nat} {rc : RC} (hrc : SC2 l D cI cJ ad adK adV tK d rc)  {σ σ' : MS} {r : Int32} (h : FX11_since rc L  σ = some (r, σ')) : gMet l yX11_since qX11_since (rmSC2 (d + 1)) 0 0 D vwCl [(cI, .int), (cJ, .long)] (mKS adK adV tK) [.ref (ad 0)] (MW cI cJ ad σ) (MW cI cJ ad σ') (some (.int r)) := by
  refine gMet.of (cc := cX11_since) (maxL := 6) (ret := (some .int)) (by decide) rfl (Nat.le_of_ble_eq_true rfl) ?_
  intro p e s m args below meth c S hr hlk hnm hK hKS hA hB ls hl
  have hl : lv_has ls 6 [(0, .ref (ad 0))] := hl
  replace S : CallFix p m c cX11_since 6 s args (_ :: wsL_law) RX11 := S
  rw [FX11_since] at h
  have P66 : ∀ (x1 : Int32) (x2 : Int32) (x3 : Int32) (x4 : Int32) (x5 : Int32) (σ1 : MS) (H : Heap) (locs : List Loc) (ls : Array Slot), FX11_since_66 rc L x1 x2 x3 x4 x5 σ1 = some (r, σ') → gB D vwCl (va_A (MW cI cJ ad σ) s.heap.size) s.heap (MW cI cJ ad σ1) [] H locs → lv_has ls 6 [(0, .ref (ad 0)), (1, .int x1), (2, .int x2), (3, .int x3), (4, .int x4), (5, .int x5)] → W p l e (rmSC2 (d + 1)) s m args below meth c H locs 0 0 (MQ below (gQ D vwCl (MW cI cJ ad σ) (MW cI cJ ad σ') (some (.int r)) s.heap.size) args s 0 0 (va_A (MW cI cJ ad σ) s.heap.size)) (F0 m 66 ls []) := by
    intro  x1 x2 x3 x4 x5 σ1 H locs ls h hB hl
    rw [FX11_since_66] at h
    refine lv_iload_n S.1 S.2.1 dX11_since_66 rfl (lv_at hl 2 rfl) ?_
    refine lv_if_eq (tgt := 72) S.1 S.2.1 dX11_since_67 (by decide) (fun c_7 => ?_) (fun c_7 => ?_)
    · replace h := (if_pos c_7).symm.trans h
      refine lv_aload_n S.1 S.2.1 dX11_since_72 rfl (lv_at hl 0 rfl) ?_
      refine lv_bipush (v := (10 : Int32)) S.1 S.2.1 dX11_since_73 (by decide) ?_
      refine lv_iload_n S.1 S.2.1 dX11_since_75 rfl (lv_at hl 3 rfl) ?_
      refine lv_aload_n S.1 S.2.1 dX11_since_76 rfl (lv_at hl 0 rfl) ?_
      refine mg_made S hK hB wf_X11_309 rfl dX11_since_77 ?_
      refine lv_iconst (v := (-1 : Int32)) S.1 S.2.1 dX11_since_80 (by decide) ?_
      refine lv_aload_n S.1 S.2.1 dX11_since_81 rfl (lv_at hl 0 rfl) ?_
      refine mg_froms S hK hB wf_X11_20 dX11_since_82 ?_
      refine lv_iload_n S.1 S.2.1 dX11_since_85 rfl (lv_at hl 1 rfl) ?_
      obtain ⟨b_8, h⟩ := gd h
      refine ml_froms (v := (σ1.2.1 5 x1.toNatClampNeg)) S hK hB b_8 rfl dX11_since_86 ?_
      obtain ⟨r_9, σ_9, e_9, h⟩ := b2s h
      refine mCallI S hK mKSc hKS hA (kX11_node mKSc e_9) (cwX11_319 S.2.2.2.2 (rm := rmX11_node) rfl rfl ⟨by dsimp only [rmSC2, rmX11_node]; omega, by dsimp only [rmSC2, rmX11_node]; omega⟩) hB rfl hl.1 rfl (lv_room (Nat.le_of_ble_eq_true rfl)) dX11_since_87 ⟨Nat.zero_le _, Nat.zero_le _⟩ (fun H locs hB => ?_)
      refine lv_pop S.1 S.2.1 dX11_since_90 rfl ?_
      refine lv_aload_n S.1 S.2.1 dX11_since_91 rfl (lv_at hl 0 rfl) ?_
      refine mg_low S hK hB wf_X11_38 dX11_since_92 ?_
      refine lv_aload_n S.1 S.2.1 dX11_since_95 rfl (lv_at hl 0 rfl) ?_
      refine mg_made S hK hB wf_X11_309 rfl dX11_since_96 ?_
      refine lv_iload S.1 S.2.1 dX11_since_99 (lv_at hl 4 rfl) ?_
      obtain ⟨b_10, h⟩ := gd h
      refine ms_low S hK hB b_10 dX11_since_101 (fun H locs hB => ?_)
      refine lv_aload_n S.1 S.2.1 dX11_since_102 rfl (lv_at hl 0 rfl) ?_
      refine mg_high S hK hB wf_X11_41 dX11_since_103 ?_
      refine lv_aload_n S.1 S.2.1 dX11_since_106 rfl (lv_at hl 0 rfl) ?_
      refine mg_made (v := (σ_9.1 17)) S hK hB wf_X11_309 rfl dX11_since_107 ?_
      refine lv_iload S.1 S.2.1 dX11_since_110 (lv_at hl 5 rfl) ?_
      obtain ⟨b_11, h⟩ := gd h
      refine ms_high S hK hB b_11 dX11_since_112 (fun H locs hB => ?_)
      refine lv_iconst (v := (0 : Int32)) S.1 S.2.1 dX11_since_113 (by decide) ?_
      cases h
      exact gRetI S.1 S.2.1 hr hlk hB dX11_since_114
    · replace h := (if_neg c_7).symm.trans h
      refine lv_iload_n S.1 S.2.1 dX11_since_70 rfl (lv_at hl 2 rfl) ?_
      cases h
      exact gRetI S.1 S.2.1 hr hlk hB dX11_since_71
  refine lv_aload_n S.1 S.2.1 dX11_since_0 rfl (lv_at hl 0 rfl) ?_
  refine mg_at S hK hB wf_X11_152 rfl dX11_since_1 ?_
  refine lv_istore_n (lv' := [(1, .int (σ.1 7)), (0, .ref (ad 0))]) S.1 S.2.1 dX11_since_4 rfl hl (by decide) rfl (fun ls hl => ?_)
  refine lv_aload_n S.1 S.2.1 dX11_since_5 rfl (lv_at hl 1 rfl) ?_
  obtain ⟨r_1, σ_1, e_1, h⟩ := b2s h
  refine mCallI S hK mKSc hKS hA (hrc.2.2.2.1 e_1) (cwX11_331 S.2.2.2.2 (rm := (rmSC2 d)) rfl rfl ⟨by dsimp only [rmSC2]; omega, by dsimp only [rmSC2]; omega⟩) hB rfl hl.1 rfl (lv_room (Nat.le_of_ble_eq_true rfl)) dX11_since_6 ⟨Nat.zero_le _, Nat.zero_le _⟩ (fun H locs hB => ?_)
  refine lv_istore_n (lv' := [(2, .int r_1), (1, .int (σ.1 7)), (0, .ref (ad 0))]) S.1 S.2.1 dX11_since_9 rfl hl (by decide) rfl (fun ls hl => ?_)
  refine lv_iload_n S.1 S.2.1 dX11_since_10 rfl (lv_at hl 0 rfl) ?_
  refine lv_if_ne (tgt := 23) S.1 S.2.1 dX11_since_11 (by decide) (fun c_2 => ?_) (fun c_2 => ?_)
  · replace h := (if_neg c_2).symm.trans h
    refine lv_iload_n S.1 S.2.1 dX11_since_23 rfl (lv_at hl 0 rfl) ?_
    cases h
    exact gRetI S.1 S.2.1 hr hlk hB dX11_since_24
  · replace h := (if_pos c_2).symm.trans h
    refine lv_aload_n S.1 S.2.1 dX11_since_14 rfl (lv_at hl 2 rfl) ?_
    refine va_ldcS S.1 S.2.1 S.2.2.2.1 (hKS.2.1 (RX11, 219, "since", 14) (List.mem_of_getElem? (i := 14) rfl)) dX11_since_15 ?_
    obtain ⟨r_3, σ_3, e_3, h⟩ := b2s h
    refine mCallI S hK mKSc hKS hA (kX11_sees e_3) (cwX11_155 S.2.2.2.2 (rm := rmX11_sees) rfl rfl ⟨by dsimp only [rmSC2, rmX11_sees]; omega, by dsimp only [rmSC2, rmX11_sees]; omega⟩) hB rfl hl.1 rfl (lv_room (Nat.le_of_ble_eq_true rfl)) dX11_since_17 ⟨Nat.zero_le _, Nat.zero_le _⟩ (fun H locs hB => ?_)
    refine lv_if_ne (tgt := 25) S.1 S.2.1 dX11_since_20 (by decide) (fun c_4 => ?_) (fun c_4 => ?_)
    · replace h := (if_neg c_4).symm.trans h
      refine lv_aload_n S.1 S.2.1 dX11_since_25 rfl (lv_at hl 2 rfl) ?_
      refine mg_made S hK hB wf_X11_309 rfl dX11_since_26 ?_
      refine lv_istore_n (lv' := [(3, .int (σ_3.1 17)), (2, .int r_1), (1, .int (σ.1 7)), (0, .ref (ad 0))]) S.1 S.2.1 dX11_since_29 rfl hl (by decide) rfl (fun ls hl => ?_)
      refine lv_aload_n S.1 S.2.1 dX11_since_30 rfl (lv_at hl 3 rfl) ?_
      refine lv_dup S.1 S.2.1 dX11_since_31 rfl ?_
      refine mg_at S hK hB wf_X11_152 rfl dX11_since_32 ?_
      refine lv_iconst (v := (1 : Int32)) S.1 S.2.1 dX11_since_35 (by decide) ?_
      refine lv_iadd S.1 S.2.1 dX11_since_36 ?_
      refine mp_at S hK hB wf_X11_152 dX11_since_37 (fun H locs hB => ?_)
      refine lv_aload_n S.1 S.2.1 dX11_since_40 rfl (lv_at hl 3 rfl) ?_
      obtain ⟨r_5, σ_5, e_5, h⟩ := b2s h
      refine mCallI S hK mKSc hKS hA (kX11_bounds e_5) (cwX11_334 S.2.2.2.2 (rm := rmX11_bounds) rfl rfl ⟨by dsimp only [rmSC2, rmX11_bounds]; omega, by dsimp only [rmSC2, rmX11_bounds]; omega⟩) hB rfl hl.1 rfl (lv_room (Nat.le_of_ble_eq_true rfl)) dX11_since_41 ⟨Nat.zero_le _, Nat.zero_le _⟩ (fun H locs hB => ?_)
      refine lv_istore_n (lv' := [(2, .int r_5), (3, .int (σ_3.1 17)), (1, .int (σ.1 7)), (0, .ref (ad 0))]) S.1 S.2.1 dX11_since_44 rfl hl (by decide) rfl (fun ls hl => ?_)
      refine lv_aload_n S.1 S.2.1 dX11_since_45 rfl (lv_at hl 3 rfl) ?_
      refine mg_boundA S hK hB wf_X11_325 rfl dX11_since_46 ?_
      refine lv_istore (lv' := [(4, .int (σ_5.1 37)), (2, .int r_5), (3, .int (σ_3.1 17)), (1, .int (σ.1 7)), (0, .ref (ad 0))]) S.1 S.2.1 dX11_since_49 hl (by decide) rfl (fun ls hl => ?_)
      refine lv_aload_n S.1 S.2.1 dX11_since_51 rfl (lv_at hl 4 rfl) ?_
      refine mg_boundB S hK hB wf_X11_328 rfl dX11_since_52 ?_
      refine lv_istore (lv' := [(5, .int (σ_5.1 38)), (4, .int (σ_5.1 37)), (2, .int r_5), (3, .int (σ_3.1 17)), (1, .int (σ.1 7)), (0, .ref (ad 0))]) S.1 S.2.1 dX11_since_55 hl (by decide) rfl (fun ls hl => ?_)
      refine lv_iload_n S.1 S.2.1 dX11_since_57 rfl (lv_at hl 2 rfl) ?_
      refine lv_if_ne (tgt := 66) S.1 S.2.1 dX11_since_58 (by decide) (fun c_6 => ?_) (fun c_6 => ?_)
      · replace h := (if_neg c_6).symm.trans h
        exact P66  _ _ _ _ _ _ _ _ _ h hB (lv_sub hl [5, 4, 2, 3, 1, 0] rfl)
      · replace h := (if_pos c_6).symm.trans h
        refine lv_aload_n S.1 S.2.1 dX11_since_61 rfl (lv_at hl 5 rfl) ?_
        obtain ⟨r_12, σ_12, e_12, h⟩ := b2s h
        refine mCallI S hK mKSc hKS hA (hrc.2.2.2.1 e_12) (cwX11_331 S.2.2.2.2 (rm := (rmSC2 d)) rfl rfl ⟨by dsimp only [rmSC2]; omega, by dsimp only [rmSC2]; omega⟩) hB rfl hl.1 rfl (lv_room (Nat.le_of_ble_eq_true rfl)) dX11_since_62 ⟨Nat.zero_le _, Nat.zero_le _⟩ (fun H locs hB => ?_)
        refine lv_istore_n (lv' := [(2, .int r_12), (5, .int (σ_5.1 38)), (4, .int (σ_5.1 37)), (3, .int (σ_3.1 17)), (1, .int (σ.1 7)), (0, .ref (ad 0))]) S.1 S.2.1 dX11_since_65 rfl hl (by decide) rfl (fun ls hl => ?_)
        exact P66  _ _ _ _ _ _ _ _ _ h hB (lv_sub hl [5, 4, 0, 3, 2, 1] rfl)
    · replace h := (if_pos c_4).symm.trans h
      refine lv_iload_n S.1 S.2.1 dX11_since_23 rfl (lv_at hl 0 rfl) ?_
      cases h
      exact gRetI S.1 S.2.1 hr hlk hB dX11_since_24
def FX11_one_111 (rc : RC) (L : Nat)  (x1 : Int32) (y1 : Int32) (σ1 : MS) : Option (Int32 × MS) :=
    if (x1 < 0 ∨ 1801 ≤ x1.toNatClampNeg) then none else
    b2 (FX11_node y1 (-1 : Int32) (-1 : Int32) (-1 : Int32) (σ1.2.1 5 x1.toNatClampNeg) σ1) fun r_10 σ_10 =>
    some (r_10, σ_10)
def FX11_one_83 (rc : RC) (L : Nat)  (x1 : Int32) (σ1 : MS) : Option (Int32 × MS) :=
    b2 (FX11_is L x1 20 (sI σ1 7 ((σ1.1 7) + (1 : Int32)))) fun r_7 σ_7 =>
    if r_7 = 0 then
      FX11_one_111 rc L x1 (7 : Int32) σ_7
    else
      FX11_one_111 rc L x1 (6 : Int32) σ_7
def FX11_one_174 (rc : RC) (L : Nat)   (σ1 : MS) : Option (Int32 × MS) :=
    b2 (FX11_wrong (2 : Int32) (σ1.1 7) σ1) fun r_17 σ_17 =>
    some (r_17, σ_17)
def FX11_one (rc : RC) (L : Nat)  (σ : MS) : Option (Int32 × MS) :=
  b2 (FX11_which L (σ.1 7) 3 σ) fun r_1 σ_1 =>
  if r_1 = (-1 : Int32) then
    b2 (FX11_sees L 18 σ_1) fun r_3 σ_3 =>
    if r_3 = 0 then
      b2 (FX11_sees L 20 σ_3) fun r_5 σ_5 =>
      if r_5 = 0 then
        b2 (FX11_sees L 21 σ_5) fun r_11 σ_11 =>
        if r_11 = 0 then
          b2 (FX11_sees L 22 σ_11) fun r_13 σ_13 =>
          if r_13 = 0 then
            b2 (rc 5 (σ.1 7) 0 0 σ_13) fun r_26 σ_26 =>
            some (r_26, σ_26)
          else
            b2 (FX11_find L ((σ_13.1 7) + (1 : Int32)) (sI σ_13 7 ((σ_13.1 7) + (1 : Int32)))) fun r_15 σ_15 =>
            if r_15 = (-1 : Int32) then
              FX11_one_174 rc L σ_15
            else
              if (r_15 < 0 ∨ 44 ≤ r_15.toNatClampNeg) then none else
              if ((2 : Int32) = 0) then none else
              if ((σ_15.2.1 21 r_15.toNatClampNeg) - (σ_15.2.1 21 r_15.toNatClampNeg) / (2 : Int32) * (2 : Int32)) = 0 then
                FX11_one_174 rc L σ_15
              else
                if (r_15 < 0 ∨ 44 ≤ r_15.toNatClampNeg) then none else
                if (r_15 < 0 ∨ 44 ≤ r_15.toNatClampNeg) then none else
                if ((((12 : Int32) * (σ_15.2.1 21 r_15.toNatClampNeg)) + (σ_15.2.1 22 r_15.toNatClampNeg)) < 0 ∨ 48 ≤ (((12 : Int32) * (σ_15.2.1 21 r_15.toNatClampNeg)) + (σ_15.2.1 22 r_15.toNatClampNeg)).toNatClampNeg) then none else
                if ((σ.1 7) < 0 ∨ 1801 ≤ (σ.1 7).toNatClampNeg) then none else
                b2 (FX11_node (8 : Int32) (σ_15.2.1 25 (((12 : Int32) * (σ_15.2.1 21 r_15.toNatClampNeg)) + (σ_15.2.1 22 r_15.toNatClampNeg)).toNatClampNeg) (-1 : Int32) (-1 : Int32) (σ_15.2.1 5 (σ.1 7).toNatClampNeg) (sI σ_15 7 ((σ_15.1 7) + (1 : Int32)))) fun r_25 σ_25 =>
                some (r_25, σ_25)
        else
          FX11_one_83 rc L (σ.1 7) σ_11
      else
        FX11_one_83 rc L (σ.1 7) σ_5
    else
      b2 (rc 0 0 0 0 (sI σ_3 7 ((σ_3.1 7) + (1 : Int32)))) fun r_27 σ_27 =>
      some (r_27, (sI σ_27 7 ((σ_27.1 7) + (1 : Int32))))
  else
    b2 (rc 4 (σ.1 7) r_1 0 σ_1) fun r_28 σ_28 =>
    some (r_28, σ_28)
set_option maxRecDepth 100000 in
set_option maxHeartbeats 4000000 in
theorem kX11_one {l : Launch} {D : va_G} {cI cJ : ClassId} {ad : Nat → Nat} {adK adV tK : Nat → Nat} {L : Nat} {d : Nat} {rc : RC} (hrc : SC2 l D cI cJ ad adK adV tK d rc)  {σ σ' : MS} {r : Int32} (h : FX11_one rc L  σ = some (r, σ')) : gMet l yX11_one qX11_one (rmSC2 (d + 1)) 0 0 D vwCl [(cI, .int), (cJ, .long)] (mKS adK adV tK) [.ref (ad 0)] (MW cI cJ ad σ) (MW cI cJ ad σ') (some (.int r)) := by
  refine gMet.of (cc := cX11_one) (maxL := 4) (ret := (some .int)) (by decide) rfl (Nat.le_of_ble_eq_true rfl) ?_
  intro p e s m args below meth c S hr hlk hnm hK hKS hA hB ls hl
  have hl : lv_has ls 4 [(0, .ref (ad 0))] := hl
  replace S : CallFix p m c cX11_one 4 s args (_ :: wsL_law) RX11 := S
  rw [FX11_one] at h
  have P111 : ∀ (x1 : Int32) (y1 : Int32) (σ1 : MS) (H : Heap) (locs : List Loc) (ls : Array Slot), FX11_one_111 rc L x1 y1 σ1 = some (r, σ') → gB D vwCl (va_A (MW cI cJ ad σ) s.heap.size) s.heap (MW cI cJ ad σ1) [] H locs → lv_has ls 4 [(0, .ref (ad 0)), (1, .int x1)] → W p l e (rmSC2 (d + 1)) s m args below meth c H locs 0 0 (MQ below (gQ D vwCl (MW cI cJ ad σ) (MW cI cJ ad σ') (some (.int r)) s.heap.size) args s 0 0 (va_A (MW cI cJ ad σ) s.heap.size)) (F0 m 111 ls [.int y1, .ref (ad 0)]) := by
    intro  x1 y1 σ1 H locs ls h hB hl
    rw [FX11_one_111] at h
    refine lv_iconst (v := (-1 : Int32)) S.1 S.2.1 dX11_one_111 (by decide) ?_
    refine lv_iconst (v := (-1 : Int32)) S.1 S.2.1 dX11_one_112 (by decide) ?_
    refine lv_iconst (v := (-1 : Int32)) S.1 S.2.1 dX11_one_113 (by decide) ?_
    refine lv_aload_n S.1 S.2.1 dX11_one_114 rfl (lv_at hl 0 rfl) ?_
    refine mg_froms S hK hB wf_X11_20 dX11_one_115 ?_
    refine lv_iload_n S.1 S.2.1 dX11_one_118 rfl (lv_at hl 1 rfl) ?_
    obtain ⟨b_9, h⟩ := gd h
    refine ml_froms (v := (σ1.2.1 5 x1.toNatClampNeg)) S hK hB b_9 rfl dX11_one_119 ?_
    obtain ⟨r_10, σ_10, e_10, h⟩ := b2s h
    refine mCallI S hK mKSc hKS hA (kX11_node mKSc e_10) (cwX11_319 S.2.2.2.2 (rm := rmX11_node) rfl rfl ⟨by dsimp only [rmSC2, rmX11_node]; omega, by dsimp only [rmSC2, rmX11_node]; omega⟩) hB rfl hl.1 rfl (lv_room (Nat.le_of_ble_eq_true rfl)) dX11_one_120 ⟨Nat.zero_le _, Nat.zero_le _⟩ (fun H locs hB => ?_)
    cases h
    exact gRetI S.1 S.2.1 hr hlk hB dX11_one_123
  have P83 : ∀ (x1 : Int32) (σ1 : MS) (H : Heap) (locs : List Loc) (ls : Array Slot), FX11_one_83 rc L x1 σ1 = some (r, σ') → gB D vwCl (va_A (MW cI cJ ad σ) s.heap.size) s.heap (MW cI cJ ad σ1) [] H locs → lv_has ls 4 [(0, .ref (ad 0)), (1, .int x1)] → W p l e (rmSC2 (d + 1)) s m args below meth c H locs 0 0 (MQ below (gQ D vwCl (MW cI cJ ad σ) (MW cI cJ ad σ') (some (.int r)) s.heap.size) args s 0 0 (va_A (MW cI cJ ad σ) s.heap.size)) (F0 m 83 ls []) := by
    intro  x1 σ1 H locs ls h hB hl
    rw [FX11_one_83] at h
    refine lv_aload_n S.1 S.2.1 dX11_one_83 rfl (lv_at hl 0 rfl) ?_
    refine lv_dup S.1 S.2.1 dX11_one_84 rfl ?_
    refine mg_at S hK hB wf_X11_152 rfl dX11_one_85 ?_
    refine lv_iconst (v := (1 : Int32)) S.1 S.2.1 dX11_one_88 (by decide) ?_
    refine lv_iadd S.1 S.2.1 dX11_one_89 ?_
    refine mp_at S hK hB wf_X11_152 dX11_one_90 (fun H locs hB => ?_)
    refine lv_aload_n S.1 S.2.1 dX11_one_93 rfl (lv_at hl 0 rfl) ?_
    refine lv_aload_n S.1 S.2.1 dX11_one_94 rfl (lv_at hl 0 rfl) ?_
    refine lv_iload_n S.1 S.2.1 dX11_one_95 rfl (lv_at hl 1 rfl) ?_
    refine va_ldcS S.1 S.2.1 S.2.2.2.1 (hKS.2.1 (RX11, 237, "true", 20) (List.mem_of_getElem? (i := 20) rfl)) dX11_one_96 ?_
    obtain ⟨r_7, σ_7, e_7, h⟩ := b2s h
    refine mCallI S hK mKSc hKS hA (kX11_is e_7) (cwX11_138 S.2.2.2.2 (rm := rmX11_is) rfl rfl ⟨by dsimp only [rmSC2, rmX11_is]; omega, by dsimp only [rmSC2, rmX11_is]; omega⟩) hB rfl hl.1 rfl (lv_room (Nat.le_of_ble_eq_true rfl)) dX11_one_98 ⟨Nat.zero_le _, Nat.zero_le _⟩ (fun H locs hB => ?_)
    refine lv_if_eq (tgt := 109) S.1 S.2.1 dX11_one_101 (by decide) (fun c_8 => ?_) (fun c_8 => ?_)
    · replace h := (if_pos c_8).symm.trans h
      refine lv_bipush (v := (7 : Int32)) S.1 S.2.1 dX11_one_109 (by decide) ?_
      exact P111  _ _ _ _ _ _ h hB hl
    · replace h := (if_neg c_8).symm.trans h
      refine lv_bipush (v := (6 : Int32)) S.1 S.2.1 dX11_one_104 (by decide) ?_
      refine lv_goto (tgt := 111) S.1 S.2.1 dX11_one_106 (by decide) ?_
      exact P111  _ _ _ _ _ _ h hB hl
  have P174 : ∀  (σ1 : MS) (H : Heap) (locs : List Loc) (ls : Array Slot), FX11_one_174 rc L  σ1 = some (r, σ') → gB D vwCl (va_A (MW cI cJ ad σ) s.heap.size) s.heap (MW cI cJ ad σ1) [] H locs → lv_has ls 4 [(0, .ref (ad 0))] → W p l e (rmSC2 (d + 1)) s m args below meth c H locs 0 0 (MQ below (gQ D vwCl (MW cI cJ ad σ) (MW cI cJ ad σ') (some (.int r)) s.heap.size) args s 0 0 (va_A (MW cI cJ ad σ) s.heap.size)) (F0 m 174 ls []) := by
    intro   σ1 H locs ls h hB hl
    rw [FX11_one_174] at h
    refine lv_aload_n S.1 S.2.1 dX11_one_174 rfl (lv_at hl 0 rfl) ?_
    refine lv_iconst (v := (2 : Int32)) S.1 S.2.1 dX11_one_175 (by decide) ?_
    refine lv_aload_n S.1 S.2.1 dX11_one_176 rfl (lv_at hl 0 rfl) ?_
    refine mg_at S hK hB wf_X11_152 rfl dX11_one_177 ?_
    obtain ⟨r_17, σ_17, e_17, h⟩ := b2s h
    refine mCallI S hK mKSc hKS hA (kX11_wrong mKSc e_17) (cwX11_294 S.2.2.2.2 (rm := rmX11_wrong) rfl rfl ⟨by dsimp only [rmSC2, rmX11_wrong]; omega, by dsimp only [rmSC2, rmX11_wrong]; omega⟩) hB rfl hl.1 rfl (lv_room (Nat.le_of_ble_eq_true rfl)) dX11_one_180 ⟨Nat.zero_le _, Nat.zero_le _⟩ (fun H locs hB => ?_)
    cases h
    exact gRetI S.1 S.2.1 hr hlk hB dX11_one_183
  refine lv_aload_n S.1 S.2.1 dX11_one_0 rfl (lv_at hl 0 rfl) ?_
  refine mg_at S hK hB wf_X11_152 rfl dX11_one_1 ?_
  refine lv_istore_n (lv' := [(1, .int (σ.1 7)), (0, .ref (ad 0))]) S.1 S.2.1 dX11_one_4 rfl hl (by decide) rfl (fun ls hl => ?_)
  refine lv_aload_n S.1 S.2.1 dX11_one_5 rfl (lv_at hl 1 rfl) ?_
  refine lv_aload_n S.1 S.2.1 dX11_one_6 rfl (lv_at hl 1 rfl) ?_
  refine mg_at S hK hB wf_X11_152 rfl dX11_one_7 ?_
  refine va_gets S.1 S.2.1 (hKS.2.2.2.2 3 (by decide)).1 hB.2.2 S.2.2.2.1 (S.2.2.2.2 _ (List.mem_cons_of_mem _ wf_X11_230)) (fun _ h => h) dX11_one_10 ?_
  obtain ⟨r_1, σ_1, e_1, h⟩ := b2s h
  refine mCallI S hK mKSc hKS hA (gMet.weak (kX11_which (xt := (tK 3)) e_1) (fun _ _ q => ⟨q, (q.2.2.2.2 3 (by decide)).2⟩)) (cwX11_146 S.2.2.2.2 (rm := rmX11_which) rfl rfl ⟨by dsimp only [rmSC2, rmX11_which]; omega, by dsimp only [rmSC2, rmX11_which]; omega⟩) hB rfl hl.1 rfl (lv_room (Nat.le_of_ble_eq_true rfl)) dX11_one_13 ⟨Nat.zero_le _, Nat.zero_le _⟩ (fun H locs hB => ?_)
  refine lv_istore_n (lv' := [(2, .int r_1), (1, .int (σ.1 7)), (0, .ref (ad 0))]) S.1 S.2.1 dX11_one_16 rfl hl (by decide) rfl (fun ls hl => ?_)
  refine lv_iload_n S.1 S.2.1 dX11_one_17 rfl (lv_at hl 0 rfl) ?_
  refine lv_iconst (v := (-1 : Int32)) S.1 S.2.1 dX11_one_18 (by decide) ?_
  refine lv_icmp_eq (tgt := 29) S.1 S.2.1 dX11_one_19 (by decide) (fun c_2 => ?_) (fun c_2 => ?_)
  · replace h := (if_pos c_2).symm.trans h
    refine lv_aload_n S.1 S.2.1 dX11_one_29 rfl (lv_at hl 2 rfl) ?_
    refine va_ldcS S.1 S.2.1 S.2.2.2.1 (hKS.2.1 (RX11, 233, "{", 18) (List.mem_of_getElem? (i := 18) rfl)) dX11_one_30 ?_
    obtain ⟨r_3, σ_3, e_3, h⟩ := b2s h
    refine mCallI S hK mKSc hKS hA (kX11_sees e_3) (cwX11_155 S.2.2.2.2 (rm := rmX11_sees) rfl rfl ⟨by dsimp only [rmSC2, rmX11_sees]; omega, by dsimp only [rmSC2, rmX11_sees]; omega⟩) hB rfl hl.1 rfl (lv_room (Nat.le_of_ble_eq_true rfl)) dX11_one_32 ⟨Nat.zero_le _, Nat.zero_le _⟩ (fun H locs hB => ?_)
    refine lv_if_eq (tgt := 65) S.1 S.2.1 dX11_one_35 (by decide) (fun c_4 => ?_) (fun c_4 => ?_)
    · replace h := (if_pos c_4).symm.trans h
      refine lv_aload_n S.1 S.2.1 dX11_one_65 rfl (lv_at hl 2 rfl) ?_
      refine va_ldcS S.1 S.2.1 S.2.2.2.1 (hKS.2.1 (RX11, 237, "true", 20) (List.mem_of_getElem? (i := 20) rfl)) dX11_one_66 ?_
      obtain ⟨r_5, σ_5, e_5, h⟩ := b2s h
      refine mCallI S hK mKSc hKS hA (kX11_sees e_5) (cwX11_155 S.2.2.2.2 (rm := rmX11_sees) rfl rfl ⟨by dsimp only [rmSC2, rmX11_sees]; omega, by dsimp only [rmSC2, rmX11_sees]; omega⟩) hB rfl hl.1 rfl (lv_room (Nat.le_of_ble_eq_true rfl)) dX11_one_68 ⟨Nat.zero_le _, Nat.zero_le _⟩ (fun H locs hB => ?_)
      refine lv_if_ne (tgt := 83) S.1 S.2.1 dX11_one_71 (by decide) (fun c_6 => ?_) (fun c_6 => ?_)
      · replace h := (if_neg c_6).symm.trans h
        exact P83  _ _ _ _ _ h hB (lv_sub hl [2, 1] rfl)
      · replace h := (if_pos c_6).symm.trans h
        refine lv_aload_n S.1 S.2.1 dX11_one_74 rfl (lv_at hl 2 rfl) ?_
        refine va_ldcS S.1 S.2.1 S.2.2.2.1 (hKS.2.1 (RX11, 239, "false", 21) (List.mem_of_getElem? (i := 21) rfl)) dX11_one_75 ?_
        obtain ⟨r_11, σ_11, e_11, h⟩ := b2s h
        refine mCallI S hK mKSc hKS hA (kX11_sees e_11) (cwX11_155 S.2.2.2.2 (rm := rmX11_sees) rfl rfl ⟨by dsimp only [rmSC2, rmX11_sees]; omega, by dsimp only [rmSC2, rmX11_sees]; omega⟩) hB rfl hl.1 rfl (lv_room (Nat.le_of_ble_eq_true rfl)) dX11_one_77 ⟨Nat.zero_le _, Nat.zero_le _⟩ (fun H locs hB => ?_)
        refine lv_if_eq (tgt := 124) S.1 S.2.1 dX11_one_80 (by decide) (fun c_12 => ?_) (fun c_12 => ?_)
        · replace h := (if_pos c_12).symm.trans h
          refine lv_aload_n S.1 S.2.1 dX11_one_124 rfl (lv_at hl 2 rfl) ?_
          refine va_ldcS S.1 S.2.1 S.2.2.2.1 (hKS.2.1 (RX11, 241, "is", 22) (List.mem_of_getElem? (i := 22) rfl)) dX11_one_125 ?_
          obtain ⟨r_13, σ_13, e_13, h⟩ := b2s h
          refine mCallI S hK mKSc hKS hA (kX11_sees e_13) (cwX11_155 S.2.2.2.2 (rm := rmX11_sees) rfl rfl ⟨by dsimp only [rmSC2, rmX11_sees]; omega, by dsimp only [rmSC2, rmX11_sees]; omega⟩) hB rfl hl.1 rfl (lv_room (Nat.le_of_ble_eq_true rfl)) dX11_one_127 ⟨Nat.zero_le _, Nat.zero_le _⟩ (fun H locs hB => ?_)
          refine lv_if_ne (tgt := 139) S.1 S.2.1 dX11_one_130 (by decide) (fun c_14 => ?_) (fun c_14 => ?_)
          · replace h := (if_neg c_14).symm.trans h
            refine lv_aload_n S.1 S.2.1 dX11_one_139 rfl (lv_at hl 2 rfl) ?_
            refine lv_dup S.1 S.2.1 dX11_one_140 rfl ?_
            refine mg_at S hK hB wf_X11_152 rfl dX11_one_141 ?_
            refine lv_iconst (v := (1 : Int32)) S.1 S.2.1 dX11_one_144 (by decide) ?_
            refine lv_iadd S.1 S.2.1 dX11_one_145 ?_
            refine mp_at S hK hB wf_X11_152 dX11_one_146 (fun H locs hB => ?_)
            refine lv_aload_n S.1 S.2.1 dX11_one_149 rfl (lv_at hl 2 rfl) ?_
            refine lv_aload_n S.1 S.2.1 dX11_one_150 rfl (lv_at hl 2 rfl) ?_
            refine mg_at (v := ((σ_13.1 7) + (1 : Int32))) S hK hB wf_X11_152 rfl dX11_one_151 ?_
            obtain ⟨r_15, σ_15, e_15, h⟩ := b2s h
            refine mCallI S hK mKSc hKS hA (kX11_find mKSc e_15) (cwX11_297 S.2.2.2.2 (rm := rmX11_find) rfl rfl ⟨by dsimp only [rmSC2, rmX11_find]; omega, by dsimp only [rmSC2, rmX11_find]; omega⟩) hB rfl hl.1 rfl (lv_room (Nat.le_of_ble_eq_true rfl)) dX11_one_154 ⟨Nat.zero_le _, Nat.zero_le _⟩ (fun H locs hB => ?_)
            refine lv_istore_n (lv' := [(3, .int r_15), (2, .int r_1), (1, .int (σ.1 7)), (0, .ref (ad 0))]) S.1 S.2.1 dX11_one_157 rfl hl (by decide) rfl (fun ls hl => ?_)
            refine lv_iload_n S.1 S.2.1 dX11_one_158 rfl (lv_at hl 0 rfl) ?_
            refine lv_iconst (v := (-1 : Int32)) S.1 S.2.1 dX11_one_159 (by decide) ?_
            refine lv_icmp_eq (tgt := 174) S.1 S.2.1 dX11_one_160 (by decide) (fun c_16 => ?_) (fun c_16 => ?_)
            · replace h := (if_pos c_16).symm.trans h
              exact P174  _ _ _ _ h hB (lv_sub hl [3] rfl)
            · replace h := (if_neg c_16).symm.trans h
              refine lv_aload_n S.1 S.2.1 dX11_one_163 rfl (lv_at hl 3 rfl) ?_
              refine mg_sorts S hK hB wf_X11_55 dX11_one_164 ?_
              refine lv_iload_n S.1 S.2.1 dX11_one_167 rfl (lv_at hl 0 rfl) ?_
              obtain ⟨b_18, h⟩ := gd h
              refine ml_sorts (v := (σ_15.2.1 21 r_15.toNatClampNeg)) S hK hB b_18 rfl dX11_one_168 ?_
              refine lv_iconst (v := (2 : Int32)) S.1 S.2.1 dX11_one_169 (by decide) ?_
              obtain ⟨z_19, h⟩ := gd h
              refine lv_irem S.1 S.2.1 dX11_one_170 z_19 ?_
              refine lv_if_ne (tgt := 184) S.1 S.2.1 dX11_one_171 (by decide) (fun c_20 => ?_) (fun c_20 => ?_)
              · replace h := (if_neg c_20).symm.trans h
                refine lv_aload_n S.1 S.2.1 dX11_one_184 rfl (lv_at hl 3 rfl) ?_
                refine lv_dup S.1 S.2.1 dX11_one_185 rfl ?_
                refine mg_at S hK hB wf_X11_152 rfl dX11_one_186 ?_
                refine lv_iconst (v := (1 : Int32)) S.1 S.2.1 dX11_one_189 (by decide) ?_
                refine lv_iadd S.1 S.2.1 dX11_one_190 ?_
                refine mp_at S hK hB wf_X11_152 dX11_one_191 (fun H locs hB => ?_)
                refine lv_aload_n S.1 S.2.1 dX11_one_194 rfl (lv_at hl 3 rfl) ?_
                refine lv_bipush (v := (8 : Int32)) S.1 S.2.1 dX11_one_195 (by decide) ?_
                refine lv_aload_n S.1 S.2.1 dX11_one_197 rfl (lv_at hl 3 rfl) ?_
                refine mg_tops S hK hB wf_X11_67 dX11_one_198 ?_
                refine lv_bipush (v := (12 : Int32)) S.1 S.2.1 dX11_one_201 (by decide) ?_
                refine lv_aload_n S.1 S.2.1 dX11_one_203 rfl (lv_at hl 3 rfl) ?_
                refine mg_sorts S hK hB wf_X11_55 dX11_one_204 ?_
                refine lv_iload_n S.1 S.2.1 dX11_one_207 rfl (lv_at hl 0 rfl) ?_
                obtain ⟨b_21, h⟩ := gd h
                refine ml_sorts (v := (σ_15.2.1 21 r_15.toNatClampNeg)) S hK hB b_21 rfl dX11_one_208 ?_
                refine lv_imul S.1 S.2.1 dX11_one_209 ?_
                refine lv_aload_n S.1 S.2.1 dX11_one_210 rfl (lv_at hl 3 rfl) ?_
                refine mg_numbers S hK hB wf_X11_58 dX11_one_211 ?_
                refine lv_iload_n S.1 S.2.1 dX11_one_214 rfl (lv_at hl 0 rfl) ?_
                obtain ⟨b_22, h⟩ := gd h
                refine ml_numbers (v := (σ_15.2.1 22 r_15.toNatClampNeg)) S hK hB b_22 rfl dX11_one_215 ?_
                refine lv_iadd S.1 S.2.1 dX11_one_216 ?_
                obtain ⟨b_23, h⟩ := gd h
                refine ml_tops (v := (σ_15.2.1 25 (((12 : Int32) * (σ_15.2.1 21 r_15.toNatClampNeg)) + (σ_15.2.1 22 r_15.toNatClampNeg)).toNatClampNeg)) S hK hB b_23 rfl dX11_one_217 ?_
                refine lv_iconst (v := (-1 : Int32)) S.1 S.2.1 dX11_one_218 (by decide) ?_
                refine lv_iconst (v := (-1 : Int32)) S.1 S.2.1 dX11_one_219 (by decide) ?_
                refine lv_aload_n S.1 S.2.1 dX11_one_220 rfl (lv_at hl 3 rfl) ?_
                refine mg_froms S hK hB wf_X11_20 dX11_one_221 ?_
                refine lv_iload_n S.1 S.2.1 dX11_one_224 rfl (lv_at hl 2 rfl) ?_
                obtain ⟨b_24, h⟩ := gd h
                refine ml_froms (v := (σ_15.2.1 5 (σ.1 7).toNatClampNeg)) S hK hB b_24 rfl dX11_one_225 ?_
                obtain ⟨r_25, σ_25, e_25, h⟩ := b2s h
                refine mCallI S hK mKSc hKS hA (kX11_node mKSc e_25) (cwX11_319 S.2.2.2.2 (rm := rmX11_node) rfl rfl ⟨by dsimp only [rmSC2, rmX11_node]; omega, by dsimp only [rmSC2, rmX11_node]; omega⟩) hB rfl hl.1 rfl (lv_room (Nat.le_of_ble_eq_true rfl)) dX11_one_226 ⟨Nat.zero_le _, Nat.zero_le _⟩ (fun H locs hB => ?_)
                cases h
                exact gRetI S.1 S.2.1 hr hlk hB dX11_one_229
              · replace h := (if_pos c_20).symm.trans h
                exact P174  _ _ _ _ h hB (lv_sub hl [3] rfl)
          · replace h := (if_pos c_14).symm.trans h
            refine lv_aload_n S.1 S.2.1 dX11_one_133 rfl (lv_at hl 2 rfl) ?_
            refine lv_iload_n S.1 S.2.1 dX11_one_134 rfl (lv_at hl 1 rfl) ?_
            obtain ⟨r_26, σ_26, e_26, h⟩ := b2s h
            refine mCallI S hK mKSc hKS hA (hrc.2.2.2.2.2.1 e_26) (cwX11_340 S.2.2.2.2 (rm := (rmSC2 d)) rfl rfl ⟨by dsimp only [rmSC2]; omega, by dsimp only [rmSC2]; omega⟩) hB rfl hl.1 rfl (lv_room (Nat.le_of_ble_eq_true rfl)) dX11_one_135 ⟨Nat.zero_le _, Nat.zero_le _⟩ (fun H locs hB => ?_)
            cases h
            exact gRetI S.1 S.2.1 hr hlk hB dX11_one_138
        · replace h := (if_neg c_12).symm.trans h
          exact P83  _ _ _ _ _ h hB (lv_sub hl [2, 1] rfl)
    · replace h := (if_neg c_4).symm.trans h
      refine lv_aload_n S.1 S.2.1 dX11_one_38 rfl (lv_at hl 2 rfl) ?_
      refine lv_dup S.1 S.2.1 dX11_one_39 rfl ?_
      refine mg_at S hK hB wf_X11_152 rfl dX11_one_40 ?_
      refine lv_iconst (v := (1 : Int32)) S.1 S.2.1 dX11_one_43 (by decide) ?_
      refine lv_iadd S.1 S.2.1 dX11_one_44 ?_
      refine mp_at S hK hB wf_X11_152 dX11_one_45 (fun H locs hB => ?_)
      refine lv_aload_n S.1 S.2.1 dX11_one_48 rfl (lv_at hl 2 rfl) ?_
      obtain ⟨r_27, σ_27, e_27, h⟩ := b2s h
      refine mCallI S hK mKSc hKS hA (hrc.1 e_27) (cwX11_306 S.2.2.2.2 (rm := (rmSC2 d)) rfl rfl ⟨by dsimp only [rmSC2]; omega, by dsimp only [rmSC2]; omega⟩) hB rfl hl.1 rfl (lv_room (Nat.le_of_ble_eq_true rfl)) dX11_one_49 ⟨Nat.zero_le _, Nat.zero_le _⟩ (fun H locs hB => ?_)
      refine lv_istore_n (lv' := [(3, .int r_27), (2, .int r_1), (1, .int (σ.1 7)), (0, .ref (ad 0))]) S.1 S.2.1 dX11_one_52 rfl hl (by decide) rfl (fun ls hl => ?_)
      refine lv_aload_n S.1 S.2.1 dX11_one_53 rfl (lv_at hl 3 rfl) ?_
      refine lv_dup S.1 S.2.1 dX11_one_54 rfl ?_
      refine mg_at S hK hB wf_X11_152 rfl dX11_one_55 ?_
      refine lv_iconst (v := (1 : Int32)) S.1 S.2.1 dX11_one_58 (by decide) ?_
      refine lv_iadd S.1 S.2.1 dX11_one_59 ?_
      refine mp_at S hK hB wf_X11_152 dX11_one_60 (fun H locs hB => ?_)
      refine lv_iload_n S.1 S.2.1 dX11_one_63 rfl (lv_at hl 0 rfl) ?_
      cases h
      exact gRetI S.1 S.2.1 hr hlk hB dX11_one_64
  · replace h := (if_neg c_2).symm.trans h
    refine lv_aload_n S.1 S.2.1 dX11_one_22 rfl (lv_at hl 2 rfl) ?_
    refine lv_iload_n S.1 S.2.1 dX11_one_23 rfl (lv_at hl 1 rfl) ?_
    refine lv_iload_n S.1 S.2.1 dX11_one_24 rfl (lv_at hl 0 rfl) ?_
    obtain ⟨r_28, σ_28, e_28, h⟩ := b2s h
    refine mCallI S hK mKSc hKS hA (hrc.2.2.2.2.1 e_28) (cwX11_337 S.2.2.2.2 (rm := (rmSC2 d)) rfl rfl ⟨by dsimp only [rmSC2]; omega, by dsimp only [rmSC2]; omega⟩) hB rfl hl.1 rfl (lv_room (Nat.le_of_ble_eq_true rfl)) dX11_one_25 ⟨Nat.zero_le _, Nat.zero_le _⟩ (fun H locs hB => ?_)
    cases h
    exact gRetI S.1 S.2.1 hr hlk hB dX11_one_28
def FX11_fronted_63 (rc : RC) (L : Nat)  (x1 : Int32) (x2 : Int32) (x3 : Int32) (x4 : Int32) (x5 : Int32) (σ1 : MS) : Option (Int32 × MS) :=
    if x3 = 0 then
      if (x1 < 0 ∨ 1801 ≤ x1.toNatClampNeg) then none else
      b2 (FX11_node x2 (σ1.1 17) (-1 : Int32) (-1 : Int32) (σ1.2.1 5 x1.toNatClampNeg) σ1) fun r_8 σ_8 =>
      if ((σ_8.1 17) < 0 ∨ 1203 ≤ (σ_8.1 17).toNatClampNeg) then none else
      if ((σ_8.1 17) < 0 ∨ 1203 ≤ (σ_8.1 17).toNatClampNeg) then none else
      some ((0 : Int32), (sA (sA σ_8 13 (upd (σ_8.2.1 13) (σ_8.1 17).toNatClampNeg x4)) 14 (upd (σ_8.2.1 14) (σ_8.1 17).toNatClampNeg x5)))
    else
      some (x3, σ1)
def FX11_fronted_52 (rc : RC) (L : Nat)  (x1 : Int32) (x2 : Int32) (x3 : Int32) (x4 : Int32) (y0 : Int32) (σ1 : MS) : Option (Int32 × MS) :=
    if x3 = 0 then
      b2 (rc 3 0 0 0 σ1) fun r_11 σ_11 =>
      FX11_fronted_63 rc L x1 x2 r_11 x4 y0 σ_11
    else
      FX11_fronted_63 rc L x1 x2 x3 x4 y0 σ1
def FX11_fronted_37 (rc : RC) (L : Nat)  (x1 : Int32) (x2 : Int32) (x3 : Int32) (y0 : Int32) (σ1 : MS) : Option (Int32 × MS) :=
    if (4 : Int32) ≤ x2 then
      FX11_fronted_52 rc L x1 x2 x3 y0 (σ1.1 38) σ1
    else
      FX11_fronted_52 rc L x1 x2 x3 y0 (-1 : Int32) σ1
def FX11_fronted_23 (rc : RC) (L : Nat)  (x1 : Int32) (x2 : Int32) (y0 : Int32) (σ1 : MS) : Option (Int32 × MS) :=
    if (4 : Int32) ≤ x2 then
      FX11_fronted_37 rc L x1 x2 y0 (σ1.1 37) σ1
    else
      FX11_fronted_37 rc L x1 x2 y0 (0 : Int32) σ1
def FX11_fronted (rc : RC) (L : Nat) (p0 : Int32) (p1 : Int32) (σ : MS) : Option (Int32 × MS) :=
  if (4 : Int32) ≤ p1 then
    b2 (FX11_bounds L (sI σ 7 ((σ.1 7) + (1 : Int32)))) fun r_2 σ_2 =>
    FX11_fronted_23 rc L p0 p1 r_2 σ_2
  else
    FX11_fronted_23 rc L p0 p1 (0 : Int32) (sI σ 7 ((σ.1 7) + (1 : Int32)))
set_option maxRecDepth 100000 in
set_option maxHeartbeats 4000000 in
theorem kX11_fronted {l : Launch} {D : va_G} {cI cJ : ClassId} {ad : Nat → Nat} {adK adV tK : Nat → Nat} {L : Nat} {d : Nat} {rc : RC} (hrc : SC2 l D cI cJ ad adK adV tK d rc) {p0 : Int32} {p1 : Int32} {σ σ' : MS} {r : Int32} (h : FX11_fronted rc L p0 p1 σ = some (r, σ')) : gMet l yX11_fronted qX11_fronted (rmSC2 (d + 1)) 0 0 D vwCl [(cI, .int), (cJ, .long)] (mKS adK adV tK) [.ref (ad 0), .int p0, .int p1] (MW cI cJ ad σ) (MW cI cJ ad σ') (some (.int r)) := by
  refine gMet.of (cc := cX11_fronted) (maxL := 6) (ret := (some .int)) (by decide) rfl (Nat.le_of_ble_eq_true rfl) ?_
  intro p e s m args below meth c S hr hlk hnm hK hKS hA hB ls hl
  have hl : lv_has ls 6 [(0, .ref (ad 0)), (1, .int p0), (2, .int p1)] := hl
  replace S : CallFix p m c cX11_fronted 6 s args (_ :: wsL_law) RX11 := S
  rw [FX11_fronted] at h
  have P63 : ∀ (x1 : Int32) (x2 : Int32) (x3 : Int32) (x4 : Int32) (x5 : Int32) (σ1 : MS) (H : Heap) (locs : List Loc) (ls : Array Slot), FX11_fronted_63 rc L x1 x2 x3 x4 x5 σ1 = some (r, σ') → gB D vwCl (va_A (MW cI cJ ad σ) s.heap.size) s.heap (MW cI cJ ad σ1) [] H locs → lv_has ls 6 [(0, .ref (ad 0)), (1, .int x1), (2, .int x2), (3, .int x3), (4, .int x4), (5, .int x5)] → W p l e (rmSC2 (d + 1)) s m args below meth c H locs 0 0 (MQ below (gQ D vwCl (MW cI cJ ad σ) (MW cI cJ ad σ') (some (.int r)) s.heap.size) args s 0 0 (va_A (MW cI cJ ad σ) s.heap.size)) (F0 m 63 ls []) := by
    intro  x1 x2 x3 x4 x5 σ1 H locs ls h hB hl
    rw [FX11_fronted_63] at h
    refine lv_iload_n S.1 S.2.1 dX11_fronted_63 rfl (lv_at hl 3 rfl) ?_
    refine lv_if_eq (tgt := 69) S.1 S.2.1 dX11_fronted_64 (by decide) (fun c_6 => ?_) (fun c_6 => ?_)
    · replace h := (if_pos c_6).symm.trans h
      refine lv_aload_n S.1 S.2.1 dX11_fronted_69 rfl (lv_at hl 0 rfl) ?_
      refine lv_iload_n S.1 S.2.1 dX11_fronted_70 rfl (lv_at hl 2 rfl) ?_
      refine lv_aload_n S.1 S.2.1 dX11_fronted_71 rfl (lv_at hl 0 rfl) ?_
      refine mg_made S hK hB wf_X11_309 rfl dX11_fronted_72 ?_
      refine lv_iconst (v := (-1 : Int32)) S.1 S.2.1 dX11_fronted_75 (by decide) ?_
      refine lv_iconst (v := (-1 : Int32)) S.1 S.2.1 dX11_fronted_76 (by decide) ?_
      refine lv_aload_n S.1 S.2.1 dX11_fronted_77 rfl (lv_at hl 0 rfl) ?_
      refine mg_froms S hK hB wf_X11_20 dX11_fronted_78 ?_
      refine lv_iload_n S.1 S.2.1 dX11_fronted_81 rfl (lv_at hl 1 rfl) ?_
      obtain ⟨b_7, h⟩ := gd h
      refine ml_froms (v := (σ1.2.1 5 x1.toNatClampNeg)) S hK hB b_7 rfl dX11_fronted_82 ?_
      obtain ⟨r_8, σ_8, e_8, h⟩ := b2s h
      refine mCallI S hK mKSc hKS hA (kX11_node mKSc e_8) (cwX11_319 S.2.2.2.2 (rm := rmX11_node) rfl rfl ⟨by dsimp only [rmSC2, rmX11_node]; omega, by dsimp only [rmSC2, rmX11_node]; omega⟩) hB rfl hl.1 rfl (lv_room (Nat.le_of_ble_eq_true rfl)) dX11_fronted_83 ⟨Nat.zero_le _, Nat.zero_le _⟩ (fun H locs hB => ?_)
      refine lv_pop S.1 S.2.1 dX11_fronted_86 rfl ?_
      refine lv_aload_n S.1 S.2.1 dX11_fronted_87 rfl (lv_at hl 0 rfl) ?_
      refine mg_low S hK hB wf_X11_38 dX11_fronted_88 ?_
      refine lv_aload_n S.1 S.2.1 dX11_fronted_91 rfl (lv_at hl 0 rfl) ?_
      refine mg_made S hK hB wf_X11_309 rfl dX11_fronted_92 ?_
      refine lv_iload S.1 S.2.1 dX11_fronted_95 (lv_at hl 4 rfl) ?_
      obtain ⟨b_9, h⟩ := gd h
      refine ms_low S hK hB b_9 dX11_fronted_97 (fun H locs hB => ?_)
      refine lv_aload_n S.1 S.2.1 dX11_fronted_98 rfl (lv_at hl 0 rfl) ?_
      refine mg_high S hK hB wf_X11_41 dX11_fronted_99 ?_
      refine lv_aload_n S.1 S.2.1 dX11_fronted_102 rfl (lv_at hl 0 rfl) ?_
      refine mg_made (v := (σ_8.1 17)) S hK hB wf_X11_309 rfl dX11_fronted_103 ?_
      refine lv_iload S.1 S.2.1 dX11_fronted_106 (lv_at hl 5 rfl) ?_
      obtain ⟨b_10, h⟩ := gd h
      refine ms_high S hK hB b_10 dX11_fronted_108 (fun H locs hB => ?_)
      refine lv_iconst (v := (0 : Int32)) S.1 S.2.1 dX11_fronted_109 (by decide) ?_
      cases h
      exact gRetI S.1 S.2.1 hr hlk hB dX11_fronted_110
    · replace h := (if_neg c_6).symm.trans h
      refine lv_iload_n S.1 S.2.1 dX11_fronted_67 rfl (lv_at hl 3 rfl) ?_
      cases h
      exact gRetI S.1 S.2.1 hr hlk hB dX11_fronted_68
  have P52 : ∀ (x1 : Int32) (x2 : Int32) (x3 : Int32) (x4 : Int32) (y0 : Int32) (σ1 : MS) (H : Heap) (locs : List Loc) (ls : Array Slot), FX11_fronted_52 rc L x1 x2 x3 x4 y0 σ1 = some (r, σ') → gB D vwCl (va_A (MW cI cJ ad σ) s.heap.size) s.heap (MW cI cJ ad σ1) [] H locs → lv_has ls 6 [(0, .ref (ad 0)), (1, .int x1), (2, .int x2), (3, .int x3), (4, .int x4)] → W p l e (rmSC2 (d + 1)) s m args below meth c H locs 0 0 (MQ below (gQ D vwCl (MW cI cJ ad σ) (MW cI cJ ad σ') (some (.int r)) s.heap.size) args s 0 0 (va_A (MW cI cJ ad σ) s.heap.size)) (F0 m 52 ls [.int y0]) := by
    intro  x1 x2 x3 x4 y0 σ1 H locs ls h hB hl
    rw [FX11_fronted_52] at h
    refine lv_istore (lv' := [(5, .int y0), (0, .ref (ad 0)), (1, .int x1), (2, .int x2), (3, .int x3), (4, .int x4)]) S.1 S.2.1 dX11_fronted_52 hl (by decide) rfl (fun ls hl => ?_)
    refine lv_iload_n S.1 S.2.1 dX11_fronted_54 rfl (lv_at hl 4 rfl) ?_
    refine lv_if_ne (tgt := 63) S.1 S.2.1 dX11_fronted_55 (by decide) (fun c_5 => ?_) (fun c_5 => ?_)
    · replace h := (if_neg c_5).symm.trans h
      exact P63  _ _ _ _ _ _ _ _ _ h hB (lv_sub hl [1, 2, 3, 4, 5, 0] rfl)
    · replace h := (if_pos c_5).symm.trans h
      refine lv_aload_n S.1 S.2.1 dX11_fronted_58 rfl (lv_at hl 1 rfl) ?_
      obtain ⟨r_11, σ_11, e_11, h⟩ := b2s h
      refine mCallI S hK mKSc hKS hA (hrc.2.2.2.1 e_11) (cwX11_331 S.2.2.2.2 (rm := (rmSC2 d)) rfl rfl ⟨by dsimp only [rmSC2]; omega, by dsimp only [rmSC2]; omega⟩) hB rfl hl.1 rfl (lv_room (Nat.le_of_ble_eq_true rfl)) dX11_fronted_59 ⟨Nat.zero_le _, Nat.zero_le _⟩ (fun H locs hB => ?_)
      refine lv_istore_n (lv' := [(3, .int r_11), (5, .int y0), (0, .ref (ad 0)), (1, .int x1), (2, .int x2), (4, .int x4)]) S.1 S.2.1 dX11_fronted_62 rfl hl (by decide) rfl (fun ls hl => ?_)
      exact P63  _ _ _ _ _ _ _ _ _ h hB (lv_sub hl [2, 3, 4, 0, 5, 1] rfl)
  have P37 : ∀ (x1 : Int32) (x2 : Int32) (x3 : Int32) (y0 : Int32) (σ1 : MS) (H : Heap) (locs : List Loc) (ls : Array Slot), FX11_fronted_37 rc L x1 x2 x3 y0 σ1 = some (r, σ') → gB D vwCl (va_A (MW cI cJ ad σ) s.heap.size) s.heap (MW cI cJ ad σ1) [] H locs → lv_has ls 6 [(0, .ref (ad 0)), (1, .int x1), (2, .int x2), (3, .int x3)] → W p l e (rmSC2 (d + 1)) s m args below meth c H locs 0 0 (MQ below (gQ D vwCl (MW cI cJ ad σ) (MW cI cJ ad σ') (some (.int r)) s.heap.size) args s 0 0 (va_A (MW cI cJ ad σ) s.heap.size)) (F0 m 37 ls [.int y0]) := by
    intro  x1 x2 x3 y0 σ1 H locs ls h hB hl
    rw [FX11_fronted_37] at h
    refine lv_istore (lv' := [(4, .int y0), (0, .ref (ad 0)), (1, .int x1), (2, .int x2), (3, .int x3)]) S.1 S.2.1 dX11_fronted_37 hl (by decide) rfl (fun ls hl => ?_)
    refine lv_iload_n S.1 S.2.1 dX11_fronted_39 rfl (lv_at hl 3 rfl) ?_
    refine lv_iconst (v := (4 : Int32)) S.1 S.2.1 dX11_fronted_40 (by decide) ?_
    refine lv_icmp_ge (tgt := 48) S.1 S.2.1 dX11_fronted_41 (by decide) (fun c_4 => ?_) (fun c_4 => ?_)
    · replace h := (if_pos c_4).symm.trans h
      refine lv_aload_n S.1 S.2.1 dX11_fronted_48 rfl (lv_at hl 1 rfl) ?_
      refine mg_boundB S hK hB wf_X11_328 rfl dX11_fronted_49 ?_
      exact P52  _ _ _ _ _ _ _ _ _ h hB (lv_sub hl [1, 2, 3, 4, 0] rfl)
    · replace h := (if_neg c_4).symm.trans h
      refine lv_iconst (v := (-1 : Int32)) S.1 S.2.1 dX11_fronted_44 (by decide) ?_
      refine lv_goto (tgt := 52) S.1 S.2.1 dX11_fronted_45 (by decide) ?_
      exact P52  _ _ _ _ _ _ _ _ _ h hB (lv_sub hl [1, 2, 3, 4, 0] rfl)
  have P23 : ∀ (x1 : Int32) (x2 : Int32) (y0 : Int32) (σ1 : MS) (H : Heap) (locs : List Loc) (ls : Array Slot), FX11_fronted_23 rc L x1 x2 y0 σ1 = some (r, σ') → gB D vwCl (va_A (MW cI cJ ad σ) s.heap.size) s.heap (MW cI cJ ad σ1) [] H locs → lv_has ls 6 [(0, .ref (ad 0)), (1, .int x1), (2, .int x2)] → W p l e (rmSC2 (d + 1)) s m args below meth c H locs 0 0 (MQ below (gQ D vwCl (MW cI cJ ad σ) (MW cI cJ ad σ') (some (.int r)) s.heap.size) args s 0 0 (va_A (MW cI cJ ad σ) s.heap.size)) (F0 m 23 ls [.int y0]) := by
    intro  x1 x2 y0 σ1 H locs ls h hB hl
    rw [FX11_fronted_23] at h
    refine lv_istore_n (lv' := [(3, .int y0), (0, .ref (ad 0)), (1, .int x1), (2, .int x2)]) S.1 S.2.1 dX11_fronted_23 rfl hl (by decide) rfl (fun ls hl => ?_)
    refine lv_iload_n S.1 S.2.1 dX11_fronted_24 rfl (lv_at hl 3 rfl) ?_
    refine lv_iconst (v := (4 : Int32)) S.1 S.2.1 dX11_fronted_25 (by decide) ?_
    refine lv_icmp_ge (tgt := 33) S.1 S.2.1 dX11_fronted_26 (by decide) (fun c_3 => ?_) (fun c_3 => ?_)
    · replace h := (if_pos c_3).symm.trans h
      refine lv_aload_n S.1 S.2.1 dX11_fronted_33 rfl (lv_at hl 1 rfl) ?_
      refine mg_boundA S hK hB wf_X11_325 rfl dX11_fronted_34 ?_
      exact P37  _ _ _ _ _ _ _ _ h hB (lv_sub hl [1, 2, 3, 0] rfl)
    · replace h := (if_neg c_3).symm.trans h
      refine lv_iconst (v := (0 : Int32)) S.1 S.2.1 dX11_fronted_29 (by decide) ?_
      refine lv_goto (tgt := 37) S.1 S.2.1 dX11_fronted_30 (by decide) ?_
      exact P37  _ _ _ _ _ _ _ _ h hB (lv_sub hl [1, 2, 3, 0] rfl)
  refine lv_aload_n S.1 S.2.1 dX11_fronted_0 rfl (lv_at hl 0 rfl) ?_
  refine lv_dup S.1 S.2.1 dX11_fronted_1 rfl ?_
  refine mg_at S hK hB wf_X11_152 rfl dX11_fronted_2 ?_
  refine lv_iconst (v := (1 : Int32)) S.1 S.2.1 dX11_fronted_5 (by decide) ?_
  refine lv_iadd S.1 S.2.1 dX11_fronted_6 ?_
  refine mp_at S hK hB wf_X11_152 dX11_fronted_7 (fun H locs hB => ?_)
  refine lv_iload_n S.1 S.2.1 dX11_fronted_10 rfl (lv_at hl 2 rfl) ?_
  refine lv_iconst (v := (4 : Int32)) S.1 S.2.1 dX11_fronted_11 (by decide) ?_
  refine lv_icmp_ge (tgt := 19) S.1 S.2.1 dX11_fronted_12 (by decide) (fun c_1 => ?_) (fun c_1 => ?_)
  · replace h := (if_pos c_1).symm.trans h
    refine lv_aload_n S.1 S.2.1 dX11_fronted_19 rfl (lv_at hl 0 rfl) ?_
    obtain ⟨r_2, σ_2, e_2, h⟩ := b2s h
    refine mCallI S hK mKSc hKS hA (kX11_bounds e_2) (cwX11_334 S.2.2.2.2 (rm := rmX11_bounds) rfl rfl ⟨by dsimp only [rmSC2, rmX11_bounds]; omega, by dsimp only [rmSC2, rmX11_bounds]; omega⟩) hB rfl hl.1 rfl (lv_room (Nat.le_of_ble_eq_true rfl)) dX11_fronted_20 ⟨Nat.zero_le _, Nat.zero_le _⟩ (fun H locs hB => ?_)
    exact P23  _ _ _ _ _ _ _ h hB hl
  · replace h := (if_neg c_1).symm.trans h
    refine lv_iconst (v := (0 : Int32)) S.1 S.2.1 dX11_fronted_15 (by decide) ?_
    refine lv_goto (tgt := 23) S.1 S.2.1 dX11_fronted_16 (by decide) ?_
    exact P23  _ _ _ _ _ _ _ h hB hl
def FX11_compare (rc : RC) (L : Nat) (p0 : Int32) (σ : MS) : Option (Int32 × MS) :=
  b2 (rc 6 0 0 0 σ) fun r_1 σ_1 =>
  if r_1 = 0 then
    b2 (FX11_which L (σ_1.1 7) 1 σ_1) fun r_3 σ_3 =>
    b2 (rc 6 0 0 0 (sI σ_3 7 ((σ_3.1 7) + (1 : Int32)))) fun r_4 σ_4 =>
    if r_4 = 0 then
      if (p0 < 0 ∨ 1801 ≤ p0.toNatClampNeg) then none else
      b2 (FX11_node (9 : Int32) (σ_1.1 17) (σ_4.1 17) r_3 (σ_4.2.1 5 p0.toNatClampNeg) σ_4) fun r_7 σ_7 =>
      some (r_7, σ_7)
    else
      some (r_4, σ_4)
  else
    some (r_1, σ_1)
set_option maxRecDepth 100000 in
set_option maxHeartbeats 4000000 in
theorem kX11_compare {l : Launch} {D : va_G} {cI cJ : ClassId} {ad : Nat → Nat} {adK adV tK : Nat → Nat} {L : Nat} {d : Nat} {rc : RC} (hrc : SC2 l D cI cJ ad adK adV tK d rc) {p0 : Int32} {σ σ' : MS} {r : Int32} (h : FX11_compare rc L p0 σ = some (r, σ')) : gMet l yX11_compare qX11_compare (rmSC2 (d + 1)) 0 0 D vwCl [(cI, .int), (cJ, .long)] (mKS adK adV tK) [.ref (ad 0), .int p0] (MW cI cJ ad σ) (MW cI cJ ad σ') (some (.int r)) := by
  refine gMet.of (cc := cX11_compare) (maxL := 5) (ret := (some .int)) (by decide) rfl (Nat.le_of_ble_eq_true rfl) ?_
  intro p e s m args below meth c S hr hlk hnm hK hKS hA hB ls hl
  have hl : lv_has ls 5 [(0, .ref (ad 0)), (1, .int p0)] := hl
  replace S : CallFix p m c cX11_compare 5 s args (_ :: wsL_law) RX11 := S
  rw [FX11_compare] at h
  refine lv_aload_n S.1 S.2.1 dX11_compare_0 rfl (lv_at hl 0 rfl) ?_
  obtain ⟨r_1, σ_1, e_1, h⟩ := b2s h
  refine mCallI S hK mKSc hKS hA (hrc.2.2.2.2.2.2.1 e_1) (cwX11_303 S.2.2.2.2 (rm := (rmSC2 d)) rfl rfl ⟨by dsimp only [rmSC2]; omega, by dsimp only [rmSC2]; omega⟩) hB rfl hl.1 rfl (lv_room (Nat.le_of_ble_eq_true rfl)) dX11_compare_1 ⟨Nat.zero_le _, Nat.zero_le _⟩ (fun H locs hB => ?_)
  refine lv_istore_n (lv' := [(2, .int r_1), (0, .ref (ad 0)), (1, .int p0)]) S.1 S.2.1 dX11_compare_4 rfl hl (by decide) rfl (fun ls hl => ?_)
  refine lv_iload_n S.1 S.2.1 dX11_compare_5 rfl (lv_at hl 0 rfl) ?_
  refine lv_if_eq (tgt := 11) S.1 S.2.1 dX11_compare_6 (by decide) (fun c_2 => ?_) (fun c_2 => ?_)
  · replace h := (if_pos c_2).symm.trans h
    refine lv_aload_n S.1 S.2.1 dX11_compare_11 rfl (lv_at hl 1 rfl) ?_
    refine mg_made S hK hB wf_X11_309 rfl dX11_compare_12 ?_
    refine lv_istore_n (lv' := [(3, .int (σ_1.1 17)), (2, .int r_1), (0, .ref (ad 0)), (1, .int p0)]) S.1 S.2.1 dX11_compare_15 rfl hl (by decide) rfl (fun ls hl => ?_)
    refine lv_aload_n S.1 S.2.1 dX11_compare_16 rfl (lv_at hl 2 rfl) ?_
    refine lv_aload_n S.1 S.2.1 dX11_compare_17 rfl (lv_at hl 2 rfl) ?_
    refine mg_at S hK hB wf_X11_152 rfl dX11_compare_18 ?_
    refine va_gets S.1 S.2.1 (hKS.2.2.2.2 1 (by decide)).1 hB.2.2 S.2.2.2.1 (S.2.2.2.2 _ (List.mem_cons_of_mem _ wf_X11_242)) (fun _ h => h) dX11_compare_21 ?_
    obtain ⟨r_3, σ_3, e_3, h⟩ := b2s h
    refine mCallI S hK mKSc hKS hA (gMet.weak (kX11_which (xt := (tK 1)) e_3) (fun _ _ q => ⟨q, (q.2.2.2.2 1 (by decide)).2⟩)) (cwX11_146 S.2.2.2.2 (rm := rmX11_which) rfl rfl ⟨by dsimp only [rmSC2, rmX11_which]; omega, by dsimp only [rmSC2, rmX11_which]; omega⟩) hB rfl hl.1 rfl (lv_room (Nat.le_of_ble_eq_true rfl)) dX11_compare_24 ⟨Nat.zero_le _, Nat.zero_le _⟩ (fun H locs hB => ?_)
    refine lv_istore (lv' := [(4, .int r_3), (3, .int (σ_1.1 17)), (2, .int r_1), (0, .ref (ad 0)), (1, .int p0)]) S.1 S.2.1 dX11_compare_27 hl (by decide) rfl (fun ls hl => ?_)
    refine lv_aload_n S.1 S.2.1 dX11_compare_29 rfl (lv_at hl 3 rfl) ?_
    refine lv_dup S.1 S.2.1 dX11_compare_30 rfl ?_
    refine mg_at S hK hB wf_X11_152 rfl dX11_compare_31 ?_
    refine lv_iconst (v := (1 : Int32)) S.1 S.2.1 dX11_compare_34 (by decide) ?_
    refine lv_iadd S.1 S.2.1 dX11_compare_35 ?_
    refine mp_at S hK hB wf_X11_152 dX11_compare_36 (fun H locs hB => ?_)
    refine lv_aload_n S.1 S.2.1 dX11_compare_39 rfl (lv_at hl 3 rfl) ?_
    obtain ⟨r_4, σ_4, e_4, h⟩ := b2s h
    refine mCallI S hK mKSc hKS hA (hrc.2.2.2.2.2.2.1 e_4) (cwX11_303 S.2.2.2.2 (rm := (rmSC2 d)) rfl rfl ⟨by dsimp only [rmSC2]; omega, by dsimp only [rmSC2]; omega⟩) hB rfl hl.1 rfl (lv_room (Nat.le_of_ble_eq_true rfl)) dX11_compare_40 ⟨Nat.zero_le _, Nat.zero_le _⟩ (fun H locs hB => ?_)
    refine lv_istore_n (lv' := [(2, .int r_4), (4, .int r_3), (3, .int (σ_1.1 17)), (0, .ref (ad 0)), (1, .int p0)]) S.1 S.2.1 dX11_compare_43 rfl hl (by decide) rfl (fun ls hl => ?_)
    refine lv_iload_n S.1 S.2.1 dX11_compare_44 rfl (lv_at hl 0 rfl) ?_
    refine lv_if_eq (tgt := 50) S.1 S.2.1 dX11_compare_45 (by decide) (fun c_5 => ?_) (fun c_5 => ?_)
    · replace h := (if_pos c_5).symm.trans h
      refine lv_aload_n S.1 S.2.1 dX11_compare_50 rfl (lv_at hl 3 rfl) ?_
      refine lv_bipush (v := (9 : Int32)) S.1 S.2.1 dX11_compare_51 (by decide) ?_
      refine lv_iload_n S.1 S.2.1 dX11_compare_53 rfl (lv_at hl 2 rfl) ?_
      refine lv_aload_n S.1 S.2.1 dX11_compare_54 rfl (lv_at hl 3 rfl) ?_
      refine mg_made S hK hB wf_X11_309 rfl dX11_compare_55 ?_
      refine lv_iload S.1 S.2.1 dX11_compare_58 (lv_at hl 1 rfl) ?_
      refine lv_aload_n S.1 S.2.1 dX11_compare_60 rfl (lv_at hl 3 rfl) ?_
      refine mg_froms S hK hB wf_X11_20 dX11_compare_61 ?_
      refine lv_iload_n S.1 S.2.1 dX11_compare_64 rfl (lv_at hl 4 rfl) ?_
      obtain ⟨b_6, h⟩ := gd h
      refine ml_froms (v := (σ_4.2.1 5 p0.toNatClampNeg)) S hK hB b_6 rfl dX11_compare_65 ?_
      obtain ⟨r_7, σ_7, e_7, h⟩ := b2s h
      refine mCallI S hK mKSc hKS hA (kX11_node mKSc e_7) (cwX11_319 S.2.2.2.2 (rm := rmX11_node) rfl rfl ⟨by dsimp only [rmSC2, rmX11_node]; omega, by dsimp only [rmSC2, rmX11_node]; omega⟩) hB rfl hl.1 rfl (lv_room (Nat.le_of_ble_eq_true rfl)) dX11_compare_66 ⟨Nat.zero_le _, Nat.zero_le _⟩ (fun H locs hB => ?_)
      cases h
      exact gRetI S.1 S.2.1 hr hlk hB dX11_compare_69
    · replace h := (if_neg c_5).symm.trans h
      refine lv_iload_n S.1 S.2.1 dX11_compare_48 rfl (lv_at hl 0 rfl) ?_
      cases h
      exact gRetI S.1 S.2.1 hr hlk hB dX11_compare_49
  · replace h := (if_neg c_2).symm.trans h
    refine lv_iload_n S.1 S.2.1 dX11_compare_9 rfl (lv_at hl 0 rfl) ?_
    cases h
    exact gRetI S.1 S.2.1 hr hlk hB dX11_compare_10
def FX11_expression_27 (rc : RC) (L : Nat) (k5 : Int32 → MS → Option (Int32 × MS))  (σ1 : MS) : Option (Int32 × MS) :=
    b2 (rc 8 (1 : Int32) 0 0 σ1) fun r_5 σ_5 =>
    k5 r_5 σ_5
def FX11_expression_5 (rc : RC) (L : Nat)  : Nat → Int32 → MS → Option (Int32 × MS)
  | 0, _, _ => none
  | n+1, x1, σ1 =>
    if x1 = 0 then
      b2 (FX11_sees L 23 σ1) fun r_3 σ_3 =>
      if r_3 = 0 then
        b2 (FX11_sees L 3 σ_3) fun r_6 σ_6 =>
        if r_6 = 0 then
          some (x1, σ_6)
        else
          FX11_expression_27 rc L (FX11_expression_5 rc L n) σ_6
      else
        FX11_expression_27 rc L (FX11_expression_5 rc L n) σ_3
    else
      some (x1, σ1)
def FX11_expression (rc : RC) (L : Nat)  (σ : MS) : Option (Int32 × MS) :=
  b2 (rc 7 0 0 0 σ) fun r_1 σ_1 =>
  FX11_expression_5 rc L L r_1 σ_1
set_option maxRecDepth 100000 in
set_option maxHeartbeats 4000000 in
theorem kX11_expression {l : Launch} {D : va_G} {cI cJ : ClassId} {ad : Nat → Nat} {adK adV tK : Nat → Nat} {L : Nat} {d : Nat} {rc : RC} (hrc : SC2 l D cI cJ ad adK adV tK d rc)  {σ σ' : MS} {r : Int32} (h : FX11_expression rc L  σ = some (r, σ')) : gMet l yX11_expression qX11_expression (rmSC2 (d + 1)) 0 0 D vwCl [(cI, .int), (cJ, .long)] (mKS adK adV tK) [.ref (ad 0)] (MW cI cJ ad σ) (MW cI cJ ad σ') (some (.int r)) := by
  refine gMet.of (cc := cX11_expression) (maxL := 2) (ret := (some .int)) (by decide) rfl (Nat.le_of_ble_eq_true rfl) ?_
  intro p e s m args below meth c S hr hlk hnm hK hKS hA hB ls hl
  have hl : lv_has ls 2 [(0, .ref (ad 0))] := hl
  replace S : CallFix p m c cX11_expression 2 s args (_ :: wsL_law) RX11 := S
  rw [FX11_expression] at h
  have P27 : ∀ (k5 : Int32 → MS → Option (Int32 × MS)) (hk5 : ∀ (x1 : Int32) (σ1 : MS) (H : Heap) (locs : List Loc) (ls : Array Slot), k5 x1 σ1 = some (r, σ') → gB D vwCl (va_A (MW cI cJ ad σ) s.heap.size) s.heap (MW cI cJ ad σ1) [] H locs → lv_has ls 2 [(0, .ref (ad 0)), (1, .int x1)] → W p l e (rmSC2 (d + 1)) s m args below meth c H locs 0 0 (MQ below (gQ D vwCl (MW cI cJ ad σ) (MW cI cJ ad σ') (some (.int r)) s.heap.size) args s 0 0 (va_A (MW cI cJ ad σ) s.heap.size)) (F0 m 5 ls [])), ∀  (σ1 : MS) (H : Heap) (locs : List Loc) (ls : Array Slot), FX11_expression_27 rc L k5  σ1 = some (r, σ') → gB D vwCl (va_A (MW cI cJ ad σ) s.heap.size) s.heap (MW cI cJ ad σ1) [] H locs → lv_has ls 2 [(0, .ref (ad 0))] → W p l e (rmSC2 (d + 1)) s m args below meth c H locs 0 0 (MQ below (gQ D vwCl (MW cI cJ ad σ) (MW cI cJ ad σ') (some (.int r)) s.heap.size) args s 0 0 (va_A (MW cI cJ ad σ) s.heap.size)) (F0 m 27 ls []) := by
    intro k5 hk5  σ1 H locs ls h hB hl
    rw [FX11_expression_27] at h
    refine lv_aload_n S.1 S.2.1 dX11_expression_27 rfl (lv_at hl 0 rfl) ?_
    refine lv_iconst (v := (1 : Int32)) S.1 S.2.1 dX11_expression_28 (by decide) ?_
    obtain ⟨r_5, σ_5, e_5, h⟩ := b2s h
    refine mCallI S hK mKSc hKS hA (hrc.2.2.2.2.2.2.2.2.1 e_5) (cwX11_346 S.2.2.2.2 (rm := (rmSC2 d)) rfl rfl ⟨by dsimp only [rmSC2]; omega, by dsimp only [rmSC2]; omega⟩) hB rfl hl.1 rfl (lv_room (Nat.le_of_ble_eq_true rfl)) dX11_expression_29 ⟨Nat.zero_le _, Nat.zero_le _⟩ (fun H locs hB => ?_)
    refine lv_istore_n (lv' := [(1, .int r_5), (0, .ref (ad 0))]) S.1 S.2.1 dX11_expression_32 rfl hl (by decide) rfl (fun ls hl => ?_)
    refine lv_goto (tgt := 5) S.1 S.2.1 dX11_expression_33 (by decide) ?_
    exact hk5 _ _ _ _ _ h hB (lv_sub hl [1, 0] rfl)
  have P5 : ∀  (n : Nat), ∀ (x1 : Int32) (σ1 : MS) (H : Heap) (locs : List Loc) (ls : Array Slot), FX11_expression_5 rc L n x1 σ1 = some (r, σ') → gB D vwCl (va_A (MW cI cJ ad σ) s.heap.size) s.heap (MW cI cJ ad σ1) [] H locs → lv_has ls 2 [(0, .ref (ad 0)), (1, .int x1)] → W p l e (rmSC2 (d + 1)) s m args below meth c H locs 0 0 (MQ below (gQ D vwCl (MW cI cJ ad σ) (MW cI cJ ad σ') (some (.int r)) s.heap.size) args s 0 0 (va_A (MW cI cJ ad σ) s.heap.size)) (F0 m 5 ls []) := by
    intro n
    induction n with
    | zero => intro x1 σ1 H locs ls h; simp only [FX11_expression_5] at h; cases h
    | succ n ih =>
      intro x1 σ1 H locs ls h hB hl
      rw [FX11_expression_5] at h
      refine lv_iload_n S.1 S.2.1 dX11_expression_5 rfl (lv_at hl 1 rfl) ?_
      refine lv_if_ne (tgt := 36) S.1 S.2.1 dX11_expression_6 (by decide) (fun c_2 => ?_) (fun c_2 => ?_)
      · replace h := (if_neg c_2).symm.trans h
        refine lv_iload_n S.1 S.2.1 dX11_expression_36 rfl (lv_at hl 1 rfl) ?_
        cases h
        exact gRetI S.1 S.2.1 hr hlk hB dX11_expression_37
      · replace h := (if_pos c_2).symm.trans h
        refine lv_aload_n S.1 S.2.1 dX11_expression_9 rfl (lv_at hl 0 rfl) ?_
        refine va_ldcS S.1 S.2.1 S.2.2.2.1 (hKS.2.1 (RX11, 248, "+", 23) (List.mem_of_getElem? (i := 23) rfl)) dX11_expression_10 ?_
        obtain ⟨r_3, σ_3, e_3, h⟩ := b2s h
        refine mCallI S hK mKSc hKS hA (kX11_sees e_3) (cwX11_155 S.2.2.2.2 (rm := rmX11_sees) rfl rfl ⟨by dsimp only [rmSC2, rmX11_sees]; omega, by dsimp only [rmSC2, rmX11_sees]; omega⟩) hB rfl hl.1 rfl (lv_room (Nat.le_of_ble_eq_true rfl)) dX11_expression_12 ⟨Nat.zero_le _, Nat.zero_le _⟩ (fun H locs hB => ?_)
        refine lv_if_ne (tgt := 27) S.1 S.2.1 dX11_expression_15 (by decide) (fun c_4 => ?_) (fun c_4 => ?_)
        · replace h := (if_neg c_4).symm.trans h
          exact P27 (FX11_expression_5 rc L n) ih _ _ _ _ h hB (lv_sub hl [0] rfl)
        · replace h := (if_pos c_4).symm.trans h
          refine lv_aload_n S.1 S.2.1 dX11_expression_18 rfl (lv_at hl 0 rfl) ?_
          refine va_ldcS S.1 S.2.1 S.2.2.2.1 (hKS.2.1 (RX11, 179, "-", 3) (List.mem_of_getElem? (i := 3) rfl)) dX11_expression_19 ?_
          obtain ⟨r_6, σ_6, e_6, h⟩ := b2s h
          refine mCallI S hK mKSc hKS hA (kX11_sees e_6) (cwX11_155 S.2.2.2.2 (rm := rmX11_sees) rfl rfl ⟨by dsimp only [rmSC2, rmX11_sees]; omega, by dsimp only [rmSC2, rmX11_sees]; omega⟩) hB rfl hl.1 rfl (lv_room (Nat.le_of_ble_eq_true rfl)) dX11_expression_21 ⟨Nat.zero_le _, Nat.zero_le _⟩ (fun H locs hB => ?_)
          refine lv_if_eq (tgt := 36) S.1 S.2.1 dX11_expression_24 (by decide) (fun c_7 => ?_) (fun c_7 => ?_)
          · replace h := (if_pos c_7).symm.trans h
            refine lv_iload_n S.1 S.2.1 dX11_expression_36 rfl (lv_at hl 1 rfl) ?_
            cases h
            exact gRetI S.1 S.2.1 hr hlk hB dX11_expression_37
          · replace h := (if_neg c_7).symm.trans h
            exact P27 (FX11_expression_5 rc L n) ih _ _ _ _ h hB (lv_sub hl [0] rfl)
  refine lv_aload_n S.1 S.2.1 dX11_expression_0 rfl (lv_at hl 0 rfl) ?_
  obtain ⟨r_1, σ_1, e_1, h⟩ := b2s h
  refine mCallI S hK mKSc hKS hA (hrc.2.2.2.2.2.2.2.1 e_1) (cwX11_343 S.2.2.2.2 (rm := (rmSC2 d)) rfl rfl ⟨by dsimp only [rmSC2]; omega, by dsimp only [rmSC2]; omega⟩) hB rfl hl.1 rfl (lv_room (Nat.le_of_ble_eq_true rfl)) dX11_expression_1 ⟨Nat.zero_le _, Nat.zero_le _⟩ (fun H locs hB => ?_)
  refine lv_istore_n (lv' := [(1, .int r_1), (0, .ref (ad 0))]) S.1 S.2.1 dX11_expression_4 rfl hl (by decide) rfl (fun ls hl => ?_)
  exact P5  L _ _ _ _ _ h hB (lv_sub hl [1, 0] rfl)
def FX11_product_37 (rc : RC) (L : Nat) (k5 : Int32 → MS → Option (Int32 × MS))  (σ1 : MS) : Option (Int32 × MS) :=
    b2 (rc 8 (0 : Int32) 0 0 σ1) fun r_5 σ_5 =>
    k5 r_5 σ_5
def FX11_product_5 (rc : RC) (L : Nat)  : Nat → Int32 → MS → Option (Int32 × MS)
  | 0, _, _ => none
  | n+1, x1, σ1 =>
    if x1 = 0 then
      b2 (FX11_sees L 24 σ1) fun r_3 σ_3 =>
      if r_3 = 0 then
        b2 (FX11_sees L 25 σ_3) fun r_6 σ_6 =>
        if r_6 = 0 then
          b2 (FX11_sees L 26 σ_6) fun r_8 σ_8 =>
          if r_8 = 0 then
            some (x1, σ_8)
          else
            FX11_product_37 rc L (FX11_product_5 rc L n) σ_8
        else
          FX11_product_37 rc L (FX11_product_5 rc L n) σ_6
      else
        FX11_product_37 rc L (FX11_product_5 rc L n) σ_3
    else
      some (x1, σ1)
def FX11_product (rc : RC) (L : Nat)  (σ : MS) : Option (Int32 × MS) :=
  b2 (rc 10 0 0 0 σ) fun r_1 σ_1 =>
  FX11_product_5 rc L L r_1 σ_1
set_option maxRecDepth 100000 in
set_option maxHeartbeats 4000000 in
theorem kX11_product {l : Launch} {D : va_G} {cI cJ : ClassId} {ad : Nat → Nat} {adK adV tK : Nat → Nat} {L : Nat} {d : Nat} {rc : RC} (hrc : SC2 l D cI cJ ad adK adV tK d rc)  {σ σ' : MS} {r : Int32} (h : FX11_product rc L  σ = some (r, σ')) : gMet l yX11_product qX11_product (rmSC2 (d + 1)) 0 0 D vwCl [(cI, .int), (cJ, .long)] (mKS adK adV tK) [.ref (ad 0)] (MW cI cJ ad σ) (MW cI cJ ad σ') (some (.int r)) := by
  refine gMet.of (cc := cX11_product) (maxL := 2) (ret := (some .int)) (by decide) rfl (Nat.le_of_ble_eq_true rfl) ?_
  intro p e s m args below meth c S hr hlk hnm hK hKS hA hB ls hl
  have hl : lv_has ls 2 [(0, .ref (ad 0))] := hl
  replace S : CallFix p m c cX11_product 2 s args (_ :: wsL_law) RX11 := S
  rw [FX11_product] at h
  have P37 : ∀ (k5 : Int32 → MS → Option (Int32 × MS)) (hk5 : ∀ (x1 : Int32) (σ1 : MS) (H : Heap) (locs : List Loc) (ls : Array Slot), k5 x1 σ1 = some (r, σ') → gB D vwCl (va_A (MW cI cJ ad σ) s.heap.size) s.heap (MW cI cJ ad σ1) [] H locs → lv_has ls 2 [(0, .ref (ad 0)), (1, .int x1)] → W p l e (rmSC2 (d + 1)) s m args below meth c H locs 0 0 (MQ below (gQ D vwCl (MW cI cJ ad σ) (MW cI cJ ad σ') (some (.int r)) s.heap.size) args s 0 0 (va_A (MW cI cJ ad σ) s.heap.size)) (F0 m 5 ls [])), ∀  (σ1 : MS) (H : Heap) (locs : List Loc) (ls : Array Slot), FX11_product_37 rc L k5  σ1 = some (r, σ') → gB D vwCl (va_A (MW cI cJ ad σ) s.heap.size) s.heap (MW cI cJ ad σ1) [] H locs → lv_has ls 2 [(0, .ref (ad 0))] → W p l e (rmSC2 (d + 1)) s m args below meth c H locs 0 0 (MQ below (gQ D vwCl (MW cI cJ ad σ) (MW cI cJ ad σ') (some (.int r)) s.heap.size) args s 0 0 (va_A (MW cI cJ ad σ) s.heap.size)) (F0 m 37 ls []) := by
    intro k5 hk5  σ1 H locs ls h hB hl
    rw [FX11_product_37] at h
    refine lv_aload_n S.1 S.2.1 dX11_product_37 rfl (lv_at hl 0 rfl) ?_
    refine lv_iconst (v := (0 : Int32)) S.1 S.2.1 dX11_product_38 (by decide) ?_
    obtain ⟨r_5, σ_5, e_5, h⟩ := b2s h
    refine mCallI S hK mKSc hKS hA (hrc.2.2.2.2.2.2.2.2.1 e_5) (cwX11_346 S.2.2.2.2 (rm := (rmSC2 d)) rfl rfl ⟨by dsimp only [rmSC2]; omega, by dsimp only [rmSC2]; omega⟩) hB rfl hl.1 rfl (lv_room (Nat.le_of_ble_eq_true rfl)) dX11_product_39 ⟨Nat.zero_le _, Nat.zero_le _⟩ (fun H locs hB => ?_)
    refine lv_istore_n (lv' := [(1, .int r_5), (0, .ref (ad 0))]) S.1 S.2.1 dX11_product_42 rfl hl (by decide) rfl (fun ls hl => ?_)
    refine lv_goto (tgt := 5) S.1 S.2.1 dX11_product_43 (by decide) ?_
    exact hk5 _ _ _ _ _ h hB (lv_sub hl [1, 0] rfl)
  have P5 : ∀  (n : Nat), ∀ (x1 : Int32) (σ1 : MS) (H : Heap) (locs : List Loc) (ls : Array Slot), FX11_product_5 rc L n x1 σ1 = some (r, σ') → gB D vwCl (va_A (MW cI cJ ad σ) s.heap.size) s.heap (MW cI cJ ad σ1) [] H locs → lv_has ls 2 [(0, .ref (ad 0)), (1, .int x1)] → W p l e (rmSC2 (d + 1)) s m args below meth c H locs 0 0 (MQ below (gQ D vwCl (MW cI cJ ad σ) (MW cI cJ ad σ') (some (.int r)) s.heap.size) args s 0 0 (va_A (MW cI cJ ad σ) s.heap.size)) (F0 m 5 ls []) := by
    intro n
    induction n with
    | zero => intro x1 σ1 H locs ls h; simp only [FX11_product_5] at h; cases h
    | succ n ih =>
      intro x1 σ1 H locs ls h hB hl
      rw [FX11_product_5] at h
      refine lv_iload_n S.1 S.2.1 dX11_product_5 rfl (lv_at hl 1 rfl) ?_
      refine lv_if_ne (tgt := 46) S.1 S.2.1 dX11_product_6 (by decide) (fun c_2 => ?_) (fun c_2 => ?_)
      · replace h := (if_neg c_2).symm.trans h
        refine lv_iload_n S.1 S.2.1 dX11_product_46 rfl (lv_at hl 1 rfl) ?_
        cases h
        exact gRetI S.1 S.2.1 hr hlk hB dX11_product_47
      · replace h := (if_pos c_2).symm.trans h
        refine lv_aload_n S.1 S.2.1 dX11_product_9 rfl (lv_at hl 0 rfl) ?_
        refine va_ldcS S.1 S.2.1 S.2.2.2.1 (hKS.2.1 (RX11, 253, "*", 24) (List.mem_of_getElem? (i := 24) rfl)) dX11_product_10 ?_
        obtain ⟨r_3, σ_3, e_3, h⟩ := b2s h
        refine mCallI S hK mKSc hKS hA (kX11_sees e_3) (cwX11_155 S.2.2.2.2 (rm := rmX11_sees) rfl rfl ⟨by dsimp only [rmSC2, rmX11_sees]; omega, by dsimp only [rmSC2, rmX11_sees]; omega⟩) hB rfl hl.1 rfl (lv_room (Nat.le_of_ble_eq_true rfl)) dX11_product_12 ⟨Nat.zero_le _, Nat.zero_le _⟩ (fun H locs hB => ?_)
        refine lv_if_ne (tgt := 37) S.1 S.2.1 dX11_product_15 (by decide) (fun c_4 => ?_) (fun c_4 => ?_)
        · replace h := (if_neg c_4).symm.trans h
          exact P37 (FX11_product_5 rc L n) ih _ _ _ _ h hB (lv_sub hl [0] rfl)
        · replace h := (if_pos c_4).symm.trans h
          refine lv_aload_n S.1 S.2.1 dX11_product_18 rfl (lv_at hl 0 rfl) ?_
          refine va_ldcS S.1 S.2.1 S.2.2.2.1 (hKS.2.1 (RX11, 255, "/", 25) (List.mem_of_getElem? (i := 25) rfl)) dX11_product_19 ?_
          obtain ⟨r_6, σ_6, e_6, h⟩ := b2s h
          refine mCallI S hK mKSc hKS hA (kX11_sees e_6) (cwX11_155 S.2.2.2.2 (rm := rmX11_sees) rfl rfl ⟨by dsimp only [rmSC2, rmX11_sees]; omega, by dsimp only [rmSC2, rmX11_sees]; omega⟩) hB rfl hl.1 rfl (lv_room (Nat.le_of_ble_eq_true rfl)) dX11_product_21 ⟨Nat.zero_le _, Nat.zero_le _⟩ (fun H locs hB => ?_)
          refine lv_if_ne (tgt := 37) S.1 S.2.1 dX11_product_24 (by decide) (fun c_7 => ?_) (fun c_7 => ?_)
          · replace h := (if_neg c_7).symm.trans h
            exact P37 (FX11_product_5 rc L n) ih _ _ _ _ h hB (lv_sub hl [0] rfl)
          · replace h := (if_pos c_7).symm.trans h
            refine lv_aload_n S.1 S.2.1 dX11_product_27 rfl (lv_at hl 0 rfl) ?_
            refine va_ldcSw S.1 S.2.1 S.2.2.2.1 (hKS.2.1 (RX11, 257, "%", 26) (List.mem_of_getElem? (i := 26) rfl)) dX11_product_28 ?_
            obtain ⟨r_8, σ_8, e_8, h⟩ := b2s h
            refine mCallI S hK mKSc hKS hA (kX11_sees e_8) (cwX11_155 S.2.2.2.2 (rm := rmX11_sees) rfl rfl ⟨by dsimp only [rmSC2, rmX11_sees]; omega, by dsimp only [rmSC2, rmX11_sees]; omega⟩) hB rfl hl.1 rfl (lv_room (Nat.le_of_ble_eq_true rfl)) dX11_product_31 ⟨Nat.zero_le _, Nat.zero_le _⟩ (fun H locs hB => ?_)
            refine lv_if_eq (tgt := 46) S.1 S.2.1 dX11_product_34 (by decide) (fun c_9 => ?_) (fun c_9 => ?_)
            · replace h := (if_pos c_9).symm.trans h
              refine lv_iload_n S.1 S.2.1 dX11_product_46 rfl (lv_at hl 1 rfl) ?_
              cases h
              exact gRetI S.1 S.2.1 hr hlk hB dX11_product_47
            · replace h := (if_neg c_9).symm.trans h
              exact P37 (FX11_product_5 rc L n) ih _ _ _ _ h hB (lv_sub hl [0] rfl)
  refine lv_aload_n S.1 S.2.1 dX11_product_0 rfl (lv_at hl 0 rfl) ?_
  obtain ⟨r_1, σ_1, e_1, h⟩ := b2s h
  refine mCallI S hK mKSc hKS hA (hrc.2.2.2.2.2.2.2.2.2.2 e_1) (cwX11_350 S.2.2.2.2 (rm := (rmSC2 d)) rfl rfl ⟨by dsimp only [rmSC2]; omega, by dsimp only [rmSC2]; omega⟩) hB rfl hl.1 rfl (lv_room (Nat.le_of_ble_eq_true rfl)) dX11_product_1 ⟨Nat.zero_le _, Nat.zero_le _⟩ (fun H locs hB => ?_)
  refine lv_istore_n (lv' := [(1, .int r_1), (0, .ref (ad 0))]) S.1 S.2.1 dX11_product_4 rfl hl (by decide) rfl (fun ls hl => ?_)
  exact P5  L _ _ _ _ _ h hB (lv_sub hl [1, 0] rfl)
def FX11_twoSided_42 (rc : RC) (L : Nat)  (x2 : Int32) (x3 : Int32) (y0 : Int32) (σ1 : MS) : Option (Int32 × MS) :=
    if y0 = 0 then
      if (x2 < 0 ∨ 1203 ≤ x2.toNatClampNeg) then none else
      b2 (FX11_node (34 : Int32) x2 (σ1.1 17) x3 (σ1.2.1 15 x2.toNatClampNeg) σ1) fun r_6 σ_6 =>
      some (r_6, σ_6)
    else
      some (y0, σ1)
def FX11_twoSided (rc : RC) (L : Nat) (p0 : Int32) (σ : MS) : Option (Int32 × MS) :=
  b2 (FX11_which L (σ.1 7) 2 σ) fun r_1 σ_1 =>
  if p0 = 0 then
    b2 (rc 10 0 0 0 (sI σ_1 7 ((σ_1.1 7) + (1 : Int32)))) fun r_3 σ_3 =>
    FX11_twoSided_42 rc L (σ.1 17) r_1 r_3 σ_3
  else
    b2 (rc 7 0 0 0 (sI σ_1 7 ((σ_1.1 7) + (1 : Int32)))) fun r_7 σ_7 =>
    FX11_twoSided_42 rc L (σ.1 17) r_1 r_7 σ_7
set_option maxRecDepth 100000 in
set_option maxHeartbeats 4000000 in
theorem kX11_twoSided {l : Launch} {D : va_G} {cI cJ : ClassId} {ad : Nat → Nat} {adK adV tK : Nat → Nat} {L : Nat} {d : Nat} {rc : RC} (hrc : SC2 l D cI cJ ad adK adV tK d rc) {p0 : Int32} {σ σ' : MS} {r : Int32} (h : FX11_twoSided rc L p0 σ = some (r, σ')) : gMet l yX11_twoSided qX11_twoSided (rmSC2 (d + 1)) 0 0 D vwCl [(cI, .int), (cJ, .long)] (mKS adK adV tK) [.ref (ad 0), .int p0] (MW cI cJ ad σ) (MW cI cJ ad σ') (some (.int r)) := by
  refine gMet.of (cc := cX11_twoSided) (maxL := 5) (ret := (some .int)) (by decide) rfl (Nat.le_of_ble_eq_true rfl) ?_
  intro p e s m args below meth c S hr hlk hnm hK hKS hA hB ls hl
  have hl : lv_has ls 5 [(0, .ref (ad 0)), (1, .int p0)] := hl
  replace S : CallFix p m c cX11_twoSided 5 s args (_ :: wsL_law) RX11 := S
  rw [FX11_twoSided] at h
  have P42 : ∀ (x2 : Int32) (x3 : Int32) (y0 : Int32) (σ1 : MS) (H : Heap) (locs : List Loc) (ls : Array Slot), FX11_twoSided_42 rc L x2 x3 y0 σ1 = some (r, σ') → gB D vwCl (va_A (MW cI cJ ad σ) s.heap.size) s.heap (MW cI cJ ad σ1) [] H locs → lv_has ls 5 [(0, .ref (ad 0)), (2, .int x2), (3, .int x3)] → W p l e (rmSC2 (d + 1)) s m args below meth c H locs 0 0 (MQ below (gQ D vwCl (MW cI cJ ad σ) (MW cI cJ ad σ') (some (.int r)) s.heap.size) args s 0 0 (va_A (MW cI cJ ad σ) s.heap.size)) (F0 m 42 ls [.int y0]) := by
    intro  x2 x3 y0 σ1 H locs ls h hB hl
    rw [FX11_twoSided_42] at h
    refine lv_istore (lv' := [(4, .int y0), (0, .ref (ad 0)), (2, .int x2), (3, .int x3)]) S.1 S.2.1 dX11_twoSided_42 hl (by decide) rfl (fun ls hl => ?_)
    refine lv_iload S.1 S.2.1 dX11_twoSided_44 (lv_at hl 0 rfl) ?_
    refine lv_if_eq (tgt := 54) S.1 S.2.1 dX11_twoSided_46 (by decide) (fun c_4 => ?_) (fun c_4 => ?_)
    · replace h := (if_pos c_4).symm.trans h
      refine lv_aload_n S.1 S.2.1 dX11_twoSided_54 rfl (lv_at hl 1 rfl) ?_
      refine lv_bipush (v := (34 : Int32)) S.1 S.2.1 dX11_twoSided_55 (by decide) ?_
      refine lv_iload_n S.1 S.2.1 dX11_twoSided_57 rfl (lv_at hl 2 rfl) ?_
      refine lv_aload_n S.1 S.2.1 dX11_twoSided_58 rfl (lv_at hl 1 rfl) ?_
      refine mg_made S hK hB wf_X11_309 rfl dX11_twoSided_59 ?_
      refine lv_iload_n S.1 S.2.1 dX11_twoSided_62 rfl (lv_at hl 3 rfl) ?_
      refine lv_aload_n S.1 S.2.1 dX11_twoSided_63 rfl (lv_at hl 1 rfl) ?_
      refine mg_place S hK hB wf_X11_44 dX11_twoSided_64 ?_
      refine lv_iload_n S.1 S.2.1 dX11_twoSided_67 rfl (lv_at hl 2 rfl) ?_
      obtain ⟨b_5, h⟩ := gd h
      refine ml_place (v := (σ1.2.1 15 x2.toNatClampNeg)) S hK hB b_5 rfl dX11_twoSided_68 ?_
      obtain ⟨r_6, σ_6, e_6, h⟩ := b2s h
      refine mCallI S hK mKSc hKS hA (kX11_node mKSc e_6) (cwX11_319 S.2.2.2.2 (rm := rmX11_node) rfl rfl ⟨by dsimp only [rmSC2, rmX11_node]; omega, by dsimp only [rmSC2, rmX11_node]; omega⟩) hB rfl hl.1 rfl (lv_room (Nat.le_of_ble_eq_true rfl)) dX11_twoSided_69 ⟨Nat.zero_le _, Nat.zero_le _⟩ (fun H locs hB => ?_)
      cases h
      exact gRetI S.1 S.2.1 hr hlk hB dX11_twoSided_72
    · replace h := (if_neg c_4).symm.trans h
      refine lv_iload S.1 S.2.1 dX11_twoSided_49 (lv_at hl 0 rfl) ?_
      refine lv_goto (tgt := 72) S.1 S.2.1 dX11_twoSided_51 (by decide) ?_
      cases h
      exact gRetI S.1 S.2.1 hr hlk hB dX11_twoSided_72
  refine lv_aload_n S.1 S.2.1 dX11_twoSided_0 rfl (lv_at hl 0 rfl) ?_
  refine mg_made S hK hB wf_X11_309 rfl dX11_twoSided_1 ?_
  refine lv_istore_n (lv' := [(2, .int (σ.1 17)), (0, .ref (ad 0)), (1, .int p0)]) S.1 S.2.1 dX11_twoSided_4 rfl hl (by decide) rfl (fun ls hl => ?_)
  refine lv_aload_n S.1 S.2.1 dX11_twoSided_5 rfl (lv_at hl 1 rfl) ?_
  refine lv_aload_n S.1 S.2.1 dX11_twoSided_6 rfl (lv_at hl 1 rfl) ?_
  refine mg_at S hK hB wf_X11_152 rfl dX11_twoSided_7 ?_
  refine va_gets S.1 S.2.1 (hKS.2.2.2.2 2 (by decide)).1 hB.2.2 S.2.2.2.1 (S.2.2.2.2 _ (List.mem_cons_of_mem _ wf_X11_353)) (fun _ h => h) dX11_twoSided_10 ?_
  obtain ⟨r_1, σ_1, e_1, h⟩ := b2s h
  refine mCallI S hK mKSc hKS hA (gMet.weak (kX11_which (xt := (tK 2)) e_1) (fun _ _ q => ⟨q, (q.2.2.2.2 2 (by decide)).2⟩)) (cwX11_146 S.2.2.2.2 (rm := rmX11_which) rfl rfl ⟨by dsimp only [rmSC2, rmX11_which]; omega, by dsimp only [rmSC2, rmX11_which]; omega⟩) hB rfl hl.1 rfl (lv_room (Nat.le_of_ble_eq_true rfl)) dX11_twoSided_13 ⟨Nat.zero_le _, Nat.zero_le _⟩ (fun H locs hB => ?_)
  refine lv_istore_n (lv' := [(3, .int r_1), (2, .int (σ.1 17)), (0, .ref (ad 0)), (1, .int p0)]) S.1 S.2.1 dX11_twoSided_16 rfl hl (by decide) rfl (fun ls hl => ?_)
  refine lv_aload_n S.1 S.2.1 dX11_twoSided_17 rfl (lv_at hl 2 rfl) ?_
  refine lv_dup S.1 S.2.1 dX11_twoSided_18 rfl ?_
  refine mg_at S hK hB wf_X11_152 rfl dX11_twoSided_19 ?_
  refine lv_iconst (v := (1 : Int32)) S.1 S.2.1 dX11_twoSided_22 (by decide) ?_
  refine lv_iadd S.1 S.2.1 dX11_twoSided_23 ?_
  refine mp_at S hK hB wf_X11_152 dX11_twoSided_24 (fun H locs hB => ?_)
  refine lv_iload_n S.1 S.2.1 dX11_twoSided_27 rfl (lv_at hl 3 rfl) ?_
  refine lv_if_eq (tgt := 38) S.1 S.2.1 dX11_twoSided_28 (by decide) (fun c_2 => ?_) (fun c_2 => ?_)
  · replace h := (if_pos c_2).symm.trans h
    refine lv_aload_n S.1 S.2.1 dX11_twoSided_38 rfl (lv_at hl 2 rfl) ?_
    obtain ⟨r_3, σ_3, e_3, h⟩ := b2s h
    refine mCallI S hK mKSc hKS hA (hrc.2.2.2.2.2.2.2.2.2.2 e_3) (cwX11_350 S.2.2.2.2 (rm := (rmSC2 d)) rfl rfl ⟨by dsimp only [rmSC2]; omega, by dsimp only [rmSC2]; omega⟩) hB rfl hl.1 rfl (lv_room (Nat.le_of_ble_eq_true rfl)) dX11_twoSided_39 ⟨Nat.zero_le _, Nat.zero_le _⟩ (fun H locs hB => ?_)
    exact P42  _ _ _ _ _ _ _ h hB (lv_sub hl [2, 1, 0] rfl)
  · replace h := (if_neg c_2).symm.trans h
    refine lv_aload_n S.1 S.2.1 dX11_twoSided_31 rfl (lv_at hl 2 rfl) ?_
    obtain ⟨r_7, σ_7, e_7, h⟩ := b2s h
    refine mCallI S hK mKSc hKS hA (hrc.2.2.2.2.2.2.2.1 e_7) (cwX11_343 S.2.2.2.2 (rm := (rmSC2 d)) rfl rfl ⟨by dsimp only [rmSC2]; omega, by dsimp only [rmSC2]; omega⟩) hB rfl hl.1 rfl (lv_room (Nat.le_of_ble_eq_true rfl)) dX11_twoSided_32 ⟨Nat.zero_le _, Nat.zero_le _⟩ (fun H locs hB => ?_)
    refine lv_goto (tgt := 42) S.1 S.2.1 dX11_twoSided_35 (by decide) ?_
    exact P42  _ _ _ _ _ _ _ h hB (lv_sub hl [2, 1, 0] rfl)
def FX11_braces (rc : RC)  (σ : MS) : Option (Int32 × MS) :=
  b2 (rc 0 0 0 0 (sI σ 7 ((σ.1 7) + (1 : Int32)))) fun r_1 σ_1 =>
  some (r_1, (sI σ_1 7 ((σ_1.1 7) + (1 : Int32))))
set_option maxRecDepth 100000 in
set_option maxHeartbeats 4000000 in
theorem kX11_braces {l : Launch} {D : va_G} {cI cJ : ClassId} {ad : Nat → Nat} {adK adV tK : Nat → Nat} {d : Nat} {rc : RC} (hrc : SC2 l D cI cJ ad adK adV tK d rc)  {σ σ' : MS} {r : Int32} (h : FX11_braces rc  σ = some (r, σ')) : gMet l yX11_braces qX11_braces (rmSC2 (d + 1)) 0 0 D vwCl [(cI, .int), (cJ, .long)] (mKS adK adV tK) [.ref (ad 0)] (MW cI cJ ad σ) (MW cI cJ ad σ') (some (.int r)) := by
  refine gMet.of (cc := cX11_braces) (maxL := 2) (ret := (some .int)) (by decide) rfl (Nat.le_of_ble_eq_true rfl) ?_
  intro p e s m args below meth c S hr hlk hnm hK hKS hA hB ls hl
  have hl : lv_has ls 2 [(0, .ref (ad 0))] := hl
  replace S : CallFix p m c cX11_braces 2 s args (_ :: wsL_law) RX11 := S
  rw [FX11_braces] at h
  refine lv_aload_n S.1 S.2.1 dX11_braces_0 rfl (lv_at hl 0 rfl) ?_
  refine lv_dup S.1 S.2.1 dX11_braces_1 rfl ?_
  refine mg_at S hK hB wf_X11_152 rfl dX11_braces_2 ?_
  refine lv_iconst (v := (1 : Int32)) S.1 S.2.1 dX11_braces_5 (by decide) ?_
  refine lv_iadd S.1 S.2.1 dX11_braces_6 ?_
  refine mp_at S hK hB wf_X11_152 dX11_braces_7 (fun H locs hB => ?_)
  refine lv_aload_n S.1 S.2.1 dX11_braces_10 rfl (lv_at hl 0 rfl) ?_
  obtain ⟨r_1, σ_1, e_1, h⟩ := b2s h
  refine mCallI S hK mKSc hKS hA (hrc.1 e_1) (cwX11_306 S.2.2.2.2 (rm := (rmSC2 d)) rfl rfl ⟨by dsimp only [rmSC2]; omega, by dsimp only [rmSC2]; omega⟩) hB rfl hl.1 rfl (lv_room (Nat.le_of_ble_eq_true rfl)) dX11_braces_11 ⟨Nat.zero_le _, Nat.zero_le _⟩ (fun H locs hB => ?_)
  refine lv_istore_n (lv' := [(1, .int r_1), (0, .ref (ad 0))]) S.1 S.2.1 dX11_braces_14 rfl hl (by decide) rfl (fun ls hl => ?_)
  refine lv_aload_n S.1 S.2.1 dX11_braces_15 rfl (lv_at hl 1 rfl) ?_
  refine lv_dup S.1 S.2.1 dX11_braces_16 rfl ?_
  refine mg_at S hK hB wf_X11_152 rfl dX11_braces_17 ?_
  refine lv_iconst (v := (1 : Int32)) S.1 S.2.1 dX11_braces_20 (by decide) ?_
  refine lv_iadd S.1 S.2.1 dX11_braces_21 ?_
  refine mp_at S hK hB wf_X11_152 dX11_braces_22 (fun H locs hB => ?_)
  refine lv_iload_n S.1 S.2.1 dX11_braces_25 rfl (lv_at hl 0 rfl) ?_
  cases h
  exact gRetI S.1 S.2.1 hr hlk hB dX11_braces_26
def FX11_factor_239 (rc : RC) (L : Nat)  (x2 : Int32) (x5 : Int32) (y1 : Int32) (σ1 : MS) : Option (Int32 × MS) :=
    b2 (FX11_node y1 x5 (-1 : Int32) (-1 : Int32) x2 σ1) fun r_20 σ_20 =>
    some (r_20, σ_20)
def FX11_factor_220 (rc : RC) (L : Nat)  (x1 : Int32) (x2 : Int32) (x5 : Int32) (σ1 : MS) : Option (Int32 × MS) :=
    b2 (FX11_is L x1 31 σ1) fun r_18 σ_18 =>
    if r_18 = 0 then
      FX11_factor_239 rc L x2 x5 (31 : Int32) σ_18
    else
      FX11_factor_239 rc L x2 x5 (30 : Int32) σ_18
def FX11_factor_269 (rc : RC) (L : Nat)  (x1 : Int32) (x2 : Int32) (x5 : Int32) (σ1 : MS) : Option (Int32 × MS) :=
    b2 (rc 10 0 0 0 σ1) fun r_25 σ_25 =>
    if r_25 = 0 then
      b2 (FX11_is L x1 33 σ_25) fun r_27 σ_27 =>
      if r_27 = 0 then
        b2 (rc 10 0 0 0 (sI σ_27 7 ((σ_27.1 7) + (1 : Int32)))) fun r_29 σ_29 =>
        if r_29 = 0 then
          b2 (FX11_node (33 : Int32) x5 (σ_25.1 17) (σ_29.1 17) x2 σ_29) fun r_31 σ_31 =>
          some (r_31, σ_31)
        else
          some (r_29, σ_29)
      else
        b2 (FX11_node (32 : Int32) x5 (σ_25.1 17) (-1 : Int32) x2 σ_27) fun r_32 σ_32 =>
        some (r_32, σ_32)
    else
      some (r_25, σ_25)
def FX11_factor (rc : RC) (L : Nat)  (σ : MS) : Option (Int32 × MS) :=
  if ((σ.1 7) < 0 ∨ 1801 ≤ (σ.1 7).toNatClampNeg) then none else
  if ((σ.1 7) < 0 ∨ 1801 ≤ (σ.1 7).toNatClampNeg) then none else
  if (σ.2.1 4 (σ.1 7).toNatClampNeg) = (2 : Int32) then
    b2 (FX11_numberOf L (σ.1 7) (sI σ 7 ((σ.1 7) + (1 : Int32)))) fun r_40 σ_40 =>
    b2 (FX11_node (20 : Int32) r_40 (-1 : Int32) (-1 : Int32) (σ.2.1 5 (σ.1 7).toNatClampNeg) σ_40) fun r_41 σ_41 =>
    some (r_41, σ_41)
  else
    b2 (FX11_is L (σ.1 7) 27 (sI σ 7 ((σ.1 7) + (1 : Int32)))) fun r_4 σ_4 =>
    if r_4 = 0 then
      b2 (FX11_is L (σ.1 7) 28 σ_4) fun r_6 σ_6 =>
      if r_6 = 0 then
        b2 (FX11_isName L (σ.1 7) σ_6) fun r_8 σ_8 =>
        if r_8 = 0 then
          b2 (FX11_is L (σ.1 7) 29 σ_8) fun r_10 σ_10 =>
          if r_10 = 0 then
            b2 (FX11_which L (σ.1 7) 4 σ_10) fun r_12 σ_12 =>
            if r_12 = (-1 : Int32) then
              b2 (rc 9 0 0 0 σ_12) fun r_14 σ_14 =>
              if r_14 = 0 then
                b2 (FX11_is L (σ.1 7) 31 σ_14) fun r_16 σ_16 =>
                if r_16 = 0 then
                  b2 (FX11_is L (σ.1 7) 32 σ_16) fun r_21 σ_21 =>
                  if r_21 = 0 then
                    b2 (FX11_is L (σ.1 7) 34 σ_21) fun r_23 σ_23 =>
                    if r_23 = 0 then
                      FX11_factor_269 rc L (σ.1 7) (σ.2.1 5 (σ.1 7).toNatClampNeg) (σ_14.1 17) σ_23
                    else
                      FX11_factor_269 rc L (σ.1 7) (σ.2.1 5 (σ.1 7).toNatClampNeg) (σ_14.1 17) (sI σ_23 7 ((σ_23.1 7) + (1 : Int32)))
                  else
                    FX11_factor_220 rc L (σ.1 7) (σ.2.1 5 (σ.1 7).toNatClampNeg) (σ_14.1 17) σ_21
                else
                  FX11_factor_220 rc L (σ.1 7) (σ.2.1 5 (σ.1 7).toNatClampNeg) (σ_14.1 17) σ_16
              else
                some (r_14, σ_14)
            else
              b2 (rc 10 0 0 0 σ_12) fun r_33 σ_33 =>
              if r_33 = 0 then
                b2 (FX11_node ((25 : Int32) + r_12) (σ_33.1 17) (-1 : Int32) (-1 : Int32) (σ.2.1 5 (σ.1 7).toNatClampNeg) σ_33) fun r_35 σ_35 =>
                some (r_35, σ_35)
              else
                some (r_33, σ_33)
          else
            b2 (rc 6 0 0 0 σ_10) fun r_36 σ_36 =>
            some (r_36, (sI σ_36 7 ((σ_36.1 7) + (1 : Int32))))
        else
          b2 (FX11_namedValue L (σ.1 7) σ_8) fun r_37 σ_37 =>
          some (r_37, σ_37)
      else
        b2 (FX11_node (24 : Int32) (-1 : Int32) (-1 : Int32) (-1 : Int32) (σ.2.1 5 (σ.1 7).toNatClampNeg) σ_6) fun r_38 σ_38 =>
        some (r_38, σ_38)
    else
      b2 (FX11_node (23 : Int32) (-1 : Int32) (-1 : Int32) (-1 : Int32) (σ.2.1 5 (σ.1 7).toNatClampNeg) σ_4) fun r_39 σ_39 =>
      some (r_39, σ_39)
set_option maxRecDepth 100000 in
set_option maxHeartbeats 4000000 in
theorem kX11_factor {l : Launch} {D : va_G} {cI cJ : ClassId} {ad : Nat → Nat} {adK adV tK : Nat → Nat} {L : Nat} {d : Nat} {rc : RC} (hrc : SC2 l D cI cJ ad adK adV tK d rc)  {σ σ' : MS} {r : Int32} (h : FX11_factor rc L  σ = some (r, σ')) : gMet l yX11_factor qX11_factor (rmSC2 (d + 1)) 0 0 D vwCl [(cI, .int), (cJ, .long)] (mKS adK adV tK) [.ref (ad 0)] (MW cI cJ ad σ) (MW cI cJ ad σ') (some (.int r)) := by
  refine gMet.of (cc := cX11_factor) (maxL := 7) (ret := (some .int)) (by decide) rfl (Nat.le_of_ble_eq_true rfl) ?_
  intro p e s m args below meth c S hr hlk hnm hK hKS hA hB ls hl
  have hl : lv_has ls 7 [(0, .ref (ad 0))] := hl
  replace S : CallFix p m c cX11_factor 7 s args (_ :: wsL_law) RX11 := S
  rw [FX11_factor] at h
  have P239 : ∀ (x2 : Int32) (x5 : Int32) (y1 : Int32) (σ1 : MS) (H : Heap) (locs : List Loc) (ls : Array Slot), FX11_factor_239 rc L x2 x5 y1 σ1 = some (r, σ') → gB D vwCl (va_A (MW cI cJ ad σ) s.heap.size) s.heap (MW cI cJ ad σ1) [] H locs → lv_has ls 7 [(2, .int x2), (5, .int x5)] → W p l e (rmSC2 (d + 1)) s m args below meth c H locs 0 0 (MQ below (gQ D vwCl (MW cI cJ ad σ) (MW cI cJ ad σ') (some (.int r)) s.heap.size) args s 0 0 (va_A (MW cI cJ ad σ) s.heap.size)) (F0 m 239 ls [.int y1, .ref (ad 0)]) := by
    intro  x2 x5 y1 σ1 H locs ls h hB hl
    rw [FX11_factor_239] at h
    refine lv_iload S.1 S.2.1 dX11_factor_239 (lv_at hl 1 rfl) ?_
    refine lv_iconst (v := (-1 : Int32)) S.1 S.2.1 dX11_factor_241 (by decide) ?_
    refine lv_iconst (v := (-1 : Int32)) S.1 S.2.1 dX11_factor_242 (by decide) ?_
    refine lv_iload_n S.1 S.2.1 dX11_factor_243 rfl (lv_at hl 0 rfl) ?_
    obtain ⟨r_20, σ_20, e_20, h⟩ := b2s h
    refine mCallI S hK mKSc hKS hA (kX11_node mKSc e_20) (cwX11_319 S.2.2.2.2 (rm := rmX11_node) rfl rfl ⟨by dsimp only [rmSC2, rmX11_node]; omega, by dsimp only [rmSC2, rmX11_node]; omega⟩) hB rfl hl.1 rfl (lv_room (Nat.le_of_ble_eq_true rfl)) dX11_factor_244 ⟨Nat.zero_le _, Nat.zero_le _⟩ (fun H locs hB => ?_)
    cases h
    exact gRetI S.1 S.2.1 hr hlk hB dX11_factor_247
  have P220 : ∀ (x1 : Int32) (x2 : Int32) (x5 : Int32) (σ1 : MS) (H : Heap) (locs : List Loc) (ls : Array Slot), FX11_factor_220 rc L x1 x2 x5 σ1 = some (r, σ') → gB D vwCl (va_A (MW cI cJ ad σ) s.heap.size) s.heap (MW cI cJ ad σ1) [] H locs → lv_has ls 7 [(0, .ref (ad 0)), (1, .int x1), (2, .int x2), (5, .int x5)] → W p l e (rmSC2 (d + 1)) s m args below meth c H locs 0 0 (MQ below (gQ D vwCl (MW cI cJ ad σ) (MW cI cJ ad σ') (some (.int r)) s.heap.size) args s 0 0 (va_A (MW cI cJ ad σ) s.heap.size)) (F0 m 220 ls []) := by
    intro  x1 x2 x5 σ1 H locs ls h hB hl
    rw [FX11_factor_220] at h
    refine lv_aload_n S.1 S.2.1 dX11_factor_220 rfl (lv_at hl 0 rfl) ?_
    refine lv_aload_n S.1 S.2.1 dX11_factor_221 rfl (lv_at hl 0 rfl) ?_
    refine lv_iload_n S.1 S.2.1 dX11_factor_222 rfl (lv_at hl 1 rfl) ?_
    refine va_ldcSw S.1 S.2.1 S.2.2.2.1 (hKS.2.1 (RX11, 270, "count", 31) (List.mem_of_getElem? (i := 31) rfl)) dX11_factor_223 ?_
    obtain ⟨r_18, σ_18, e_18, h⟩ := b2s h
    refine mCallI S hK mKSc hKS hA (kX11_is e_18) (cwX11_138 S.2.2.2.2 (rm := rmX11_is) rfl rfl ⟨by dsimp only [rmSC2, rmX11_is]; omega, by dsimp only [rmSC2, rmX11_is]; omega⟩) hB rfl hl.1 rfl (lv_room (Nat.le_of_ble_eq_true rfl)) dX11_factor_226 ⟨Nat.zero_le _, Nat.zero_le _⟩ (fun H locs hB => ?_)
    refine lv_if_eq (tgt := 237) S.1 S.2.1 dX11_factor_229 (by decide) (fun c_19 => ?_) (fun c_19 => ?_)
    · replace h := (if_pos c_19).symm.trans h
      refine lv_bipush (v := (31 : Int32)) S.1 S.2.1 dX11_factor_237 (by decide) ?_
      exact P239  _ _ _ _ _ _ _ h hB (lv_sub hl [2, 3] rfl)
    · replace h := (if_neg c_19).symm.trans h
      refine lv_bipush (v := (30 : Int32)) S.1 S.2.1 dX11_factor_232 (by decide) ?_
      refine lv_goto (tgt := 239) S.1 S.2.1 dX11_factor_234 (by decide) ?_
      exact P239  _ _ _ _ _ _ _ h hB (lv_sub hl [2, 3] rfl)
  have P269 : ∀ (x1 : Int32) (x2 : Int32) (x5 : Int32) (σ1 : MS) (H : Heap) (locs : List Loc) (ls : Array Slot), FX11_factor_269 rc L x1 x2 x5 σ1 = some (r, σ') → gB D vwCl (va_A (MW cI cJ ad σ) s.heap.size) s.heap (MW cI cJ ad σ1) [] H locs → lv_has ls 7 [(0, .ref (ad 0)), (1, .int x1), (2, .int x2), (5, .int x5)] → W p l e (rmSC2 (d + 1)) s m args below meth c H locs 0 0 (MQ below (gQ D vwCl (MW cI cJ ad σ) (MW cI cJ ad σ') (some (.int r)) s.heap.size) args s 0 0 (va_A (MW cI cJ ad σ) s.heap.size)) (F0 m 269 ls []) := by
    intro  x1 x2 x5 σ1 H locs ls h hB hl
    rw [FX11_factor_269] at h
    refine lv_aload_n S.1 S.2.1 dX11_factor_269 rfl (lv_at hl 0 rfl) ?_
    obtain ⟨r_25, σ_25, e_25, h⟩ := b2s h
    refine mCallI S hK mKSc hKS hA (hrc.2.2.2.2.2.2.2.2.2.2 e_25) (cwX11_350 S.2.2.2.2 (rm := (rmSC2 d)) rfl rfl ⟨by dsimp only [rmSC2]; omega, by dsimp only [rmSC2]; omega⟩) hB rfl hl.1 rfl (lv_room (Nat.le_of_ble_eq_true rfl)) dX11_factor_270 ⟨Nat.zero_le _, Nat.zero_le _⟩ (fun H locs hB => ?_)
    refine lv_istore_n (lv' := [(3, .int r_25), (0, .ref (ad 0)), (1, .int x1), (2, .int x2), (5, .int x5)]) S.1 S.2.1 dX11_factor_273 rfl hl (by decide) rfl (fun ls hl => ?_)
    refine lv_aload_n S.1 S.2.1 dX11_factor_274 rfl (lv_at hl 1 rfl) ?_
    refine mg_made S hK hB wf_X11_309 rfl dX11_factor_275 ?_
    refine lv_istore (lv' := [(6, .int (σ_25.1 17)), (3, .int r_25), (0, .ref (ad 0)), (1, .int x1), (2, .int x2), (5, .int x5)]) S.1 S.2.1 dX11_factor_278 hl (by decide) rfl (fun ls hl => ?_)
    refine lv_iload_n S.1 S.2.1 dX11_factor_280 rfl (lv_at hl 1 rfl) ?_
    refine lv_if_eq (tgt := 286) S.1 S.2.1 dX11_factor_281 (by decide) (fun c_26 => ?_) (fun c_26 => ?_)
    · replace h := (if_pos c_26).symm.trans h
      refine lv_aload_n S.1 S.2.1 dX11_factor_286 rfl (lv_at hl 2 rfl) ?_
      refine lv_iload_n S.1 S.2.1 dX11_factor_287 rfl (lv_at hl 3 rfl) ?_
      refine va_ldcSw S.1 S.2.1 S.2.2.2.1 (hKS.2.1 (RX11, 277, "at", 33) (List.mem_of_getElem? (i := 33) rfl)) dX11_factor_288 ?_
      obtain ⟨r_27, σ_27, e_27, h⟩ := b2s h
      refine mCallI S hK mKSc hKS hA (kX11_is e_27) (cwX11_138 S.2.2.2.2 (rm := rmX11_is) rfl rfl ⟨by dsimp only [rmSC2, rmX11_is]; omega, by dsimp only [rmSC2, rmX11_is]; omega⟩) hB rfl hl.1 rfl (lv_room (Nat.le_of_ble_eq_true rfl)) dX11_factor_291 ⟨Nat.zero_le _, Nat.zero_le _⟩ (fun H locs hB => ?_)
      refine lv_if_eq (tgt := 310) S.1 S.2.1 dX11_factor_294 (by decide) (fun c_28 => ?_) (fun c_28 => ?_)
      · replace h := (if_pos c_28).symm.trans h
        refine lv_aload_n S.1 S.2.1 dX11_factor_310 rfl (lv_at hl 2 rfl) ?_
        refine lv_dup S.1 S.2.1 dX11_factor_311 rfl ?_
        refine mg_at S hK hB wf_X11_152 rfl dX11_factor_312 ?_
        refine lv_iconst (v := (1 : Int32)) S.1 S.2.1 dX11_factor_315 (by decide) ?_
        refine lv_iadd S.1 S.2.1 dX11_factor_316 ?_
        refine mp_at S hK hB wf_X11_152 dX11_factor_317 (fun H locs hB => ?_)
        refine lv_aload_n S.1 S.2.1 dX11_factor_320 rfl (lv_at hl 2 rfl) ?_
        obtain ⟨r_29, σ_29, e_29, h⟩ := b2s h
        refine mCallI S hK mKSc hKS hA (hrc.2.2.2.2.2.2.2.2.2.2 e_29) (cwX11_350 S.2.2.2.2 (rm := (rmSC2 d)) rfl rfl ⟨by dsimp only [rmSC2]; omega, by dsimp only [rmSC2]; omega⟩) hB rfl hl.1 rfl (lv_room (Nat.le_of_ble_eq_true rfl)) dX11_factor_321 ⟨Nat.zero_le _, Nat.zero_le _⟩ (fun H locs hB => ?_)
        refine lv_istore_n (lv' := [(3, .int r_29), (6, .int (σ_25.1 17)), (0, .ref (ad 0)), (1, .int x1), (2, .int x2), (5, .int x5)]) S.1 S.2.1 dX11_factor_324 rfl hl (by decide) rfl (fun ls hl => ?_)
        refine lv_iload_n S.1 S.2.1 dX11_factor_325 rfl (lv_at hl 0 rfl) ?_
        refine lv_if_eq (tgt := 333) S.1 S.2.1 dX11_factor_326 (by decide) (fun c_30 => ?_) (fun c_30 => ?_)
        · replace h := (if_pos c_30).symm.trans h
          refine lv_aload_n S.1 S.2.1 dX11_factor_333 rfl (lv_at hl 2 rfl) ?_
          refine lv_bipush (v := (33 : Int32)) S.1 S.2.1 dX11_factor_334 (by decide) ?_
          refine lv_iload S.1 S.2.1 dX11_factor_336 (lv_at hl 5 rfl) ?_
          refine lv_iload S.1 S.2.1 dX11_factor_338 (lv_at hl 1 rfl) ?_
          refine lv_aload_n S.1 S.2.1 dX11_factor_340 rfl (lv_at hl 2 rfl) ?_
          refine mg_made S hK hB wf_X11_309 rfl dX11_factor_341 ?_
          refine lv_iload_n S.1 S.2.1 dX11_factor_344 rfl (lv_at hl 4 rfl) ?_
          obtain ⟨r_31, σ_31, e_31, h⟩ := b2s h
          refine mCallI S hK mKSc hKS hA (kX11_node mKSc e_31) (cwX11_319 S.2.2.2.2 (rm := rmX11_node) rfl rfl ⟨by dsimp only [rmSC2, rmX11_node]; omega, by dsimp only [rmSC2, rmX11_node]; omega⟩) hB rfl hl.1 rfl (lv_room (Nat.le_of_ble_eq_true rfl)) dX11_factor_345 ⟨Nat.zero_le _, Nat.zero_le _⟩ (fun H locs hB => ?_)
          cases h
          exact gRetI S.1 S.2.1 hr hlk hB dX11_factor_348
        · replace h := (if_neg c_30).symm.trans h
          refine lv_iload_n S.1 S.2.1 dX11_factor_329 rfl (lv_at hl 0 rfl) ?_
          refine lv_goto (tgt := 348) S.1 S.2.1 dX11_factor_330 (by decide) ?_
          cases h
          exact gRetI S.1 S.2.1 hr hlk hB dX11_factor_348
      · replace h := (if_neg c_28).symm.trans h
        refine lv_aload_n S.1 S.2.1 dX11_factor_297 rfl (lv_at hl 2 rfl) ?_
        refine lv_bipush (v := (32 : Int32)) S.1 S.2.1 dX11_factor_298 (by decide) ?_
        refine lv_iload S.1 S.2.1 dX11_factor_300 (lv_at hl 5 rfl) ?_
        refine lv_iload S.1 S.2.1 dX11_factor_302 (lv_at hl 0 rfl) ?_
        refine lv_iconst (v := (-1 : Int32)) S.1 S.2.1 dX11_factor_304 (by decide) ?_
        refine lv_iload_n S.1 S.2.1 dX11_factor_305 rfl (lv_at hl 4 rfl) ?_
        obtain ⟨r_32, σ_32, e_32, h⟩ := b2s h
        refine mCallI S hK mKSc hKS hA (kX11_node mKSc e_32) (cwX11_319 S.2.2.2.2 (rm := rmX11_node) rfl rfl ⟨by dsimp only [rmSC2, rmX11_node]; omega, by dsimp only [rmSC2, rmX11_node]; omega⟩) hB rfl hl.1 rfl (lv_room (Nat.le_of_ble_eq_true rfl)) dX11_factor_306 ⟨Nat.zero_le _, Nat.zero_le _⟩ (fun H locs hB => ?_)
        cases h
        exact gRetI S.1 S.2.1 hr hlk hB dX11_factor_309
    · replace h := (if_neg c_26).symm.trans h
      refine lv_iload_n S.1 S.2.1 dX11_factor_284 rfl (lv_at hl 1 rfl) ?_
      cases h
      exact gRetI S.1 S.2.1 hr hlk hB dX11_factor_285
  refine lv_aload_n S.1 S.2.1 dX11_factor_0 rfl (lv_at hl 0 rfl) ?_
  refine mg_at S hK hB wf_X11_152 rfl dX11_factor_1 ?_
  refine lv_istore_n (lv' := [(1, .int (σ.1 7)), (0, .ref (ad 0))]) S.1 S.2.1 dX11_factor_4 rfl hl (by decide) rfl (fun ls hl => ?_)
  refine lv_aload_n S.1 S.2.1 dX11_factor_5 rfl (lv_at hl 1 rfl) ?_
  refine mg_froms S hK hB wf_X11_20 dX11_factor_6 ?_
  refine lv_iload_n S.1 S.2.1 dX11_factor_9 rfl (lv_at hl 0 rfl) ?_
  obtain ⟨b_1, h⟩ := gd h
  refine ml_froms (v := (σ.2.1 5 (σ.1 7).toNatClampNeg)) S hK hB b_1 rfl dX11_factor_10 ?_
  refine lv_istore_n (lv' := [(2, .int (σ.2.1 5 (σ.1 7).toNatClampNeg)), (1, .int (σ.1 7)), (0, .ref (ad 0))]) S.1 S.2.1 dX11_factor_11 rfl hl (by decide) rfl (fun ls hl => ?_)
  refine lv_aload_n S.1 S.2.1 dX11_factor_12 rfl (lv_at hl 2 rfl) ?_
  refine lv_dup S.1 S.2.1 dX11_factor_13 rfl ?_
  refine mg_at S hK hB wf_X11_152 rfl dX11_factor_14 ?_
  refine lv_iconst (v := (1 : Int32)) S.1 S.2.1 dX11_factor_17 (by decide) ?_
  refine lv_iadd S.1 S.2.1 dX11_factor_18 ?_
  refine mp_at S hK hB wf_X11_152 dX11_factor_19 (fun H locs hB => ?_)
  refine lv_aload_n S.1 S.2.1 dX11_factor_22 rfl (lv_at hl 2 rfl) ?_
  refine mg_kinds S hK hB wf_X11_17 dX11_factor_23 ?_
  refine lv_iload_n S.1 S.2.1 dX11_factor_26 rfl (lv_at hl 1 rfl) ?_
  obtain ⟨b_2, h⟩ := gd h
  refine ml_kinds (v := (σ.2.1 4 (σ.1 7).toNatClampNeg)) S hK hB b_2 rfl dX11_factor_27 ?_
  refine lv_iconst (v := (2 : Int32)) S.1 S.2.1 dX11_factor_28 (by decide) ?_
  refine lv_icmp_ne (tgt := 47) S.1 S.2.1 dX11_factor_29 (by decide) (fun c_3 => ?_) (fun c_3 => ?_)
  · replace h := (if_neg c_3).symm.trans h
    refine lv_aload_n S.1 S.2.1 dX11_factor_47 rfl (lv_at hl 2 rfl) ?_
    refine lv_iload_n S.1 S.2.1 dX11_factor_48 rfl (lv_at hl 1 rfl) ?_
    refine va_ldcSw S.1 S.2.1 S.2.2.2.1 (hKS.2.1 (RX11, 259, "time", 27) (List.mem_of_getElem? (i := 27) rfl)) dX11_factor_49 ?_
    obtain ⟨r_4, σ_4, e_4, h⟩ := b2s h
    refine mCallI S hK mKSc hKS hA (kX11_is e_4) (cwX11_138 S.2.2.2.2 (rm := rmX11_is) rfl rfl ⟨by dsimp only [rmSC2, rmX11_is]; omega, by dsimp only [rmSC2, rmX11_is]; omega⟩) hB rfl hl.1 rfl (lv_room (Nat.le_of_ble_eq_true rfl)) dX11_factor_52 ⟨Nat.zero_le _, Nat.zero_le _⟩ (fun H locs hB => ?_)
    refine lv_if_eq (tgt := 69) S.1 S.2.1 dX11_factor_55 (by decide) (fun c_5 => ?_) (fun c_5 => ?_)
    · replace h := (if_pos c_5).symm.trans h
      refine lv_aload_n S.1 S.2.1 dX11_factor_69 rfl (lv_at hl 2 rfl) ?_
      refine lv_iload_n S.1 S.2.1 dX11_factor_70 rfl (lv_at hl 1 rfl) ?_
      refine va_ldcSw S.1 S.2.1 S.2.2.2.1 (hKS.2.1 (RX11, 261, "step", 28) (List.mem_of_getElem? (i := 28) rfl)) dX11_factor_71 ?_
      obtain ⟨r_6, σ_6, e_6, h⟩ := b2s h
      refine mCallI S hK mKSc hKS hA (kX11_is e_6) (cwX11_138 S.2.2.2.2 (rm := rmX11_is) rfl rfl ⟨by dsimp only [rmSC2, rmX11_is]; omega, by dsimp only [rmSC2, rmX11_is]; omega⟩) hB rfl hl.1 rfl (lv_room (Nat.le_of_ble_eq_true rfl)) dX11_factor_74 ⟨Nat.zero_le _, Nat.zero_le _⟩ (fun H locs hB => ?_)
      refine lv_if_eq (tgt := 91) S.1 S.2.1 dX11_factor_77 (by decide) (fun c_7 => ?_) (fun c_7 => ?_)
      · replace h := (if_pos c_7).symm.trans h
        refine lv_aload_n S.1 S.2.1 dX11_factor_91 rfl (lv_at hl 2 rfl) ?_
        refine lv_iload_n S.1 S.2.1 dX11_factor_92 rfl (lv_at hl 1 rfl) ?_
        obtain ⟨r_8, σ_8, e_8, h⟩ := b2s h
        refine mCallI S hK mKSc hKS hA (kX11_isName e_8) (cwX11_163 S.2.2.2.2 (rm := rmX11_isName) rfl rfl ⟨by dsimp only [rmSC2, rmX11_isName]; omega, by dsimp only [rmSC2, rmX11_isName]; omega⟩) hB rfl hl.1 rfl (lv_room (Nat.le_of_ble_eq_true rfl)) dX11_factor_93 ⟨Nat.zero_le _, Nat.zero_le _⟩ (fun H locs hB => ?_)
        refine lv_if_eq (tgt := 105) S.1 S.2.1 dX11_factor_96 (by decide) (fun c_9 => ?_) (fun c_9 => ?_)
        · replace h := (if_pos c_9).symm.trans h
          refine lv_iconst (v := (0 : Int32)) S.1 S.2.1 dX11_factor_105 (by decide) ?_
          refine lv_istore_n (lv' := [(3, .int (0 : Int32)), (2, .int (σ.2.1 5 (σ.1 7).toNatClampNeg)), (1, .int (σ.1 7)), (0, .ref (ad 0))]) S.1 S.2.1 dX11_factor_106 rfl hl (by decide) rfl (fun ls hl => ?_)
          refine lv_aload_n S.1 S.2.1 dX11_factor_107 rfl (lv_at hl 3 rfl) ?_
          refine lv_iload_n S.1 S.2.1 dX11_factor_108 rfl (lv_at hl 2 rfl) ?_
          refine va_ldcSw S.1 S.2.1 S.2.2.2.1 (hKS.2.1 (RX11, 263, "(", 29) (List.mem_of_getElem? (i := 29) rfl)) dX11_factor_109 ?_
          obtain ⟨r_10, σ_10, e_10, h⟩ := b2s h
          refine mCallI S hK mKSc hKS hA (kX11_is e_10) (cwX11_138 S.2.2.2.2 (rm := rmX11_is) rfl rfl ⟨by dsimp only [rmSC2, rmX11_is]; omega, by dsimp only [rmSC2, rmX11_is]; omega⟩) hB rfl hl.1 rfl (lv_room (Nat.le_of_ble_eq_true rfl)) dX11_factor_112 ⟨Nat.zero_le _, Nat.zero_le _⟩ (fun H locs hB => ?_)
          refine lv_if_eq (tgt := 135) S.1 S.2.1 dX11_factor_115 (by decide) (fun c_11 => ?_) (fun c_11 => ?_)
          · replace h := (if_pos c_11).symm.trans h
            refine lv_aload_n S.1 S.2.1 dX11_factor_135 rfl (lv_at hl 3 rfl) ?_
            refine lv_iload_n S.1 S.2.1 dX11_factor_136 rfl (lv_at hl 2 rfl) ?_
            refine va_gets S.1 S.2.1 (hKS.2.2.2.2 4 (by decide)).1 hB.2.2 S.2.2.2.1 (S.2.2.2.2 _ (List.mem_cons_of_mem _ wf_X11_267)) (fun _ h => h) dX11_factor_137 ?_
            obtain ⟨r_12, σ_12, e_12, h⟩ := b2s h
            refine mCallI S hK mKSc hKS hA (gMet.weak (kX11_which (xt := (tK 4)) e_12) (fun _ _ q => ⟨q, (q.2.2.2.2 4 (by decide)).2⟩)) (cwX11_146 S.2.2.2.2 (rm := rmX11_which) rfl rfl ⟨by dsimp only [rmSC2, rmX11_which]; omega, by dsimp only [rmSC2, rmX11_which]; omega⟩) hB rfl hl.1 rfl (lv_room (Nat.le_of_ble_eq_true rfl)) dX11_factor_140 ⟨Nat.zero_le _, Nat.zero_le _⟩ (fun H locs hB => ?_)
            refine lv_istore (lv' := [(4, .int r_12), (3, .int (0 : Int32)), (2, .int (σ.2.1 5 (σ.1 7).toNatClampNeg)), (1, .int (σ.1 7)), (0, .ref (ad 0))]) S.1 S.2.1 dX11_factor_143 hl (by decide) rfl (fun ls hl => ?_)
            refine lv_iload S.1 S.2.1 dX11_factor_145 (lv_at hl 0 rfl) ?_
            refine lv_iconst (v := (-1 : Int32)) S.1 S.2.1 dX11_factor_147 (by decide) ?_
            refine lv_icmp_eq (tgt := 181) S.1 S.2.1 dX11_factor_148 (by decide) (fun c_13 => ?_) (fun c_13 => ?_)
            · replace h := (if_pos c_13).symm.trans h
              refine lv_aload_n S.1 S.2.1 dX11_factor_181 rfl (lv_at hl 4 rfl) ?_
              obtain ⟨r_14, σ_14, e_14, h⟩ := b2s h
              refine mCallI S hK mKSc hKS hA (hrc.2.2.2.2.2.2.2.2.2.1 e_14) (cwX11_359 S.2.2.2.2 (rm := (rmSC2 d)) rfl rfl ⟨by dsimp only [rmSC2]; omega, by dsimp only [rmSC2]; omega⟩) hB rfl hl.1 rfl (lv_room (Nat.le_of_ble_eq_true rfl)) dX11_factor_182 ⟨Nat.zero_le _, Nat.zero_le _⟩ (fun H locs hB => ?_)
              refine lv_istore_n (lv' := [(3, .int r_14), (4, .int r_12), (2, .int (σ.2.1 5 (σ.1 7).toNatClampNeg)), (1, .int (σ.1 7)), (0, .ref (ad 0))]) S.1 S.2.1 dX11_factor_185 rfl hl (by decide) rfl (fun ls hl => ?_)
              refine lv_aload_n S.1 S.2.1 dX11_factor_186 rfl (lv_at hl 4 rfl) ?_
              refine mg_made S hK hB wf_X11_309 rfl dX11_factor_187 ?_
              refine lv_istore (lv' := [(5, .int (σ_14.1 17)), (3, .int r_14), (4, .int r_12), (2, .int (σ.2.1 5 (σ.1 7).toNatClampNeg)), (1, .int (σ.1 7)), (0, .ref (ad 0))]) S.1 S.2.1 dX11_factor_190 hl (by decide) rfl (fun ls hl => ?_)
              refine lv_iload_n S.1 S.2.1 dX11_factor_192 rfl (lv_at hl 1 rfl) ?_
              refine lv_if_eq (tgt := 198) S.1 S.2.1 dX11_factor_193 (by decide) (fun c_15 => ?_) (fun c_15 => ?_)
              · replace h := (if_pos c_15).symm.trans h
                refine lv_aload_n S.1 S.2.1 dX11_factor_198 rfl (lv_at hl 5 rfl) ?_
                refine lv_iload_n S.1 S.2.1 dX11_factor_199 rfl (lv_at hl 4 rfl) ?_
                refine va_ldcSw S.1 S.2.1 S.2.2.2.1 (hKS.2.1 (RX11, 270, "count", 31) (List.mem_of_getElem? (i := 31) rfl)) dX11_factor_200 ?_
                obtain ⟨r_16, σ_16, e_16, h⟩ := b2s h
                refine mCallI S hK mKSc hKS hA (kX11_is e_16) (cwX11_138 S.2.2.2.2 (rm := rmX11_is) rfl rfl ⟨by dsimp only [rmSC2, rmX11_is]; omega, by dsimp only [rmSC2, rmX11_is]; omega⟩) hB rfl hl.1 rfl (lv_room (Nat.le_of_ble_eq_true rfl)) dX11_factor_203 ⟨Nat.zero_le _, Nat.zero_le _⟩ (fun H locs hB => ?_)
                refine lv_if_ne (tgt := 220) S.1 S.2.1 dX11_factor_206 (by decide) (fun c_17 => ?_) (fun c_17 => ?_)
                · replace h := (if_neg c_17).symm.trans h
                  exact P220  _ _ _ _ _ _ _ h hB (lv_sub hl [5, 4, 3, 0] rfl)
                · replace h := (if_pos c_17).symm.trans h
                  refine lv_aload_n S.1 S.2.1 dX11_factor_209 rfl (lv_at hl 5 rfl) ?_
                  refine lv_iload_n S.1 S.2.1 dX11_factor_210 rfl (lv_at hl 4 rfl) ?_
                  refine va_ldcSw S.1 S.2.1 S.2.2.2.1 (hKS.2.1 (RX11, 272, "last", 32) (List.mem_of_getElem? (i := 32) rfl)) dX11_factor_211 ?_
                  obtain ⟨r_21, σ_21, e_21, h⟩ := b2s h
                  refine mCallI S hK mKSc hKS hA (kX11_is e_21) (cwX11_138 S.2.2.2.2 (rm := rmX11_is) rfl rfl ⟨by dsimp only [rmSC2, rmX11_is]; omega, by dsimp only [rmSC2, rmX11_is]; omega⟩) hB rfl hl.1 rfl (lv_room (Nat.le_of_ble_eq_true rfl)) dX11_factor_214 ⟨Nat.zero_le _, Nat.zero_le _⟩ (fun H locs hB => ?_)
                  refine lv_if_eq (tgt := 248) S.1 S.2.1 dX11_factor_217 (by decide) (fun c_22 => ?_) (fun c_22 => ?_)
                  · replace h := (if_pos c_22).symm.trans h
                    refine lv_aload_n S.1 S.2.1 dX11_factor_248 rfl (lv_at hl 5 rfl) ?_
                    refine lv_iload_n S.1 S.2.1 dX11_factor_249 rfl (lv_at hl 4 rfl) ?_
                    refine va_ldcSw S.1 S.2.1 S.2.2.2.1 (hKS.2.1 (RX11, 278, "if", 34) (List.mem_of_getElem? (i := 34) rfl)) dX11_factor_250 ?_
                    obtain ⟨r_23, σ_23, e_23, h⟩ := b2s h
                    refine mCallI S hK mKSc hKS hA (kX11_is e_23) (cwX11_138 S.2.2.2.2 (rm := rmX11_is) rfl rfl ⟨by dsimp only [rmSC2, rmX11_is]; omega, by dsimp only [rmSC2, rmX11_is]; omega⟩) hB rfl hl.1 rfl (lv_room (Nat.le_of_ble_eq_true rfl)) dX11_factor_253 ⟨Nat.zero_le _, Nat.zero_le _⟩ (fun H locs hB => ?_)
                    refine lv_if_eq (tgt := 269) S.1 S.2.1 dX11_factor_256 (by decide) (fun c_24 => ?_) (fun c_24 => ?_)
                    · replace h := (if_pos c_24).symm.trans h
                      exact P269  _ _ _ _ _ _ _ h hB (lv_sub hl [5, 4, 3, 0] rfl)
                    · replace h := (if_neg c_24).symm.trans h
                      refine lv_aload_n S.1 S.2.1 dX11_factor_259 rfl (lv_at hl 5 rfl) ?_
                      refine lv_dup S.1 S.2.1 dX11_factor_260 rfl ?_
                      refine mg_at S hK hB wf_X11_152 rfl dX11_factor_261 ?_
                      refine lv_iconst (v := (1 : Int32)) S.1 S.2.1 dX11_factor_264 (by decide) ?_
                      refine lv_iadd S.1 S.2.1 dX11_factor_265 ?_
                      refine mp_at S hK hB wf_X11_152 dX11_factor_266 (fun H locs hB => ?_)
                      exact P269  _ _ _ _ _ _ _ h hB (lv_sub hl [5, 4, 3, 0] rfl)
                  · replace h := (if_neg c_22).symm.trans h
                    exact P220  _ _ _ _ _ _ _ h hB (lv_sub hl [5, 4, 3, 0] rfl)
              · replace h := (if_neg c_15).symm.trans h
                refine lv_iload_n S.1 S.2.1 dX11_factor_196 rfl (lv_at hl 1 rfl) ?_
                cases h
                exact gRetI S.1 S.2.1 hr hlk hB dX11_factor_197
            · replace h := (if_neg c_13).symm.trans h
              refine lv_aload_n S.1 S.2.1 dX11_factor_151 rfl (lv_at hl 4 rfl) ?_
              obtain ⟨r_33, σ_33, e_33, h⟩ := b2s h
              refine mCallI S hK mKSc hKS hA (hrc.2.2.2.2.2.2.2.2.2.2 e_33) (cwX11_350 S.2.2.2.2 (rm := (rmSC2 d)) rfl rfl ⟨by dsimp only [rmSC2]; omega, by dsimp only [rmSC2]; omega⟩) hB rfl hl.1 rfl (lv_room (Nat.le_of_ble_eq_true rfl)) dX11_factor_152 ⟨Nat.zero_le _, Nat.zero_le _⟩ (fun H locs hB => ?_)
              refine lv_istore_n (lv' := [(3, .int r_33), (4, .int r_12), (2, .int (σ.2.1 5 (σ.1 7).toNatClampNeg)), (1, .int (σ.1 7)), (0, .ref (ad 0))]) S.1 S.2.1 dX11_factor_155 rfl hl (by decide) rfl (fun ls hl => ?_)
              refine lv_iload_n S.1 S.2.1 dX11_factor_156 rfl (lv_at hl 0 rfl) ?_
              refine lv_if_eq (tgt := 164) S.1 S.2.1 dX11_factor_157 (by decide) (fun c_34 => ?_) (fun c_34 => ?_)
              · replace h := (if_pos c_34).symm.trans h
                refine lv_aload_n S.1 S.2.1 dX11_factor_164 rfl (lv_at hl 4 rfl) ?_
                refine lv_bipush (v := (25 : Int32)) S.1 S.2.1 dX11_factor_165 (by decide) ?_
                refine lv_iload S.1 S.2.1 dX11_factor_167 (lv_at hl 1 rfl) ?_
                refine lv_iadd S.1 S.2.1 dX11_factor_169 ?_
                refine lv_aload_n S.1 S.2.1 dX11_factor_170 rfl (lv_at hl 4 rfl) ?_
                refine mg_made S hK hB wf_X11_309 rfl dX11_factor_171 ?_
                refine lv_iconst (v := (-1 : Int32)) S.1 S.2.1 dX11_factor_174 (by decide) ?_
                refine lv_iconst (v := (-1 : Int32)) S.1 S.2.1 dX11_factor_175 (by decide) ?_
                refine lv_iload_n S.1 S.2.1 dX11_factor_176 rfl (lv_at hl 2 rfl) ?_
                obtain ⟨r_35, σ_35, e_35, h⟩ := b2s h
                refine mCallI S hK mKSc hKS hA (kX11_node mKSc e_35) (cwX11_319 S.2.2.2.2 (rm := rmX11_node) rfl rfl ⟨by dsimp only [rmSC2, rmX11_node]; omega, by dsimp only [rmSC2, rmX11_node]; omega⟩) hB rfl hl.1 rfl (lv_room (Nat.le_of_ble_eq_true rfl)) dX11_factor_177 ⟨Nat.zero_le _, Nat.zero_le _⟩ (fun H locs hB => ?_)
                cases h
                exact gRetI S.1 S.2.1 hr hlk hB dX11_factor_180
              · replace h := (if_neg c_34).symm.trans h
                refine lv_iload_n S.1 S.2.1 dX11_factor_160 rfl (lv_at hl 0 rfl) ?_
                refine lv_goto (tgt := 180) S.1 S.2.1 dX11_factor_161 (by decide) ?_
                cases h
                exact gRetI S.1 S.2.1 hr hlk hB dX11_factor_180
          · replace h := (if_neg c_11).symm.trans h
            refine lv_aload_n S.1 S.2.1 dX11_factor_118 rfl (lv_at hl 3 rfl) ?_
            obtain ⟨r_36, σ_36, e_36, h⟩ := b2s h
            refine mCallI S hK mKSc hKS hA (hrc.2.2.2.2.2.2.1 e_36) (cwX11_303 S.2.2.2.2 (rm := (rmSC2 d)) rfl rfl ⟨by dsimp only [rmSC2]; omega, by dsimp only [rmSC2]; omega⟩) hB rfl hl.1 rfl (lv_room (Nat.le_of_ble_eq_true rfl)) dX11_factor_119 ⟨Nat.zero_le _, Nat.zero_le _⟩ (fun H locs hB => ?_)
            refine lv_istore_n (lv' := [(3, .int r_36), (2, .int (σ.2.1 5 (σ.1 7).toNatClampNeg)), (1, .int (σ.1 7)), (0, .ref (ad 0))]) S.1 S.2.1 dX11_factor_122 rfl hl (by decide) rfl (fun ls hl => ?_)
            refine lv_aload_n S.1 S.2.1 dX11_factor_123 rfl (lv_at hl 3 rfl) ?_
            refine lv_dup S.1 S.2.1 dX11_factor_124 rfl ?_
            refine mg_at S hK hB wf_X11_152 rfl dX11_factor_125 ?_
            refine lv_iconst (v := (1 : Int32)) S.1 S.2.1 dX11_factor_128 (by decide) ?_
            refine lv_iadd S.1 S.2.1 dX11_factor_129 ?_
            refine mp_at S hK hB wf_X11_152 dX11_factor_130 (fun H locs hB => ?_)
            refine lv_iload_n S.1 S.2.1 dX11_factor_133 rfl (lv_at hl 0 rfl) ?_
            cases h
            exact gRetI S.1 S.2.1 hr hlk hB dX11_factor_134
        · replace h := (if_neg c_9).symm.trans h
          refine lv_aload_n S.1 S.2.1 dX11_factor_99 rfl (lv_at hl 2 rfl) ?_
          refine lv_iload_n S.1 S.2.1 dX11_factor_100 rfl (lv_at hl 1 rfl) ?_
          obtain ⟨r_37, σ_37, e_37, h⟩ := b2s h
          refine mCallI S hK mKSc hKS hA (kX11_namedValue e_37) (cwX11_356 S.2.2.2.2 (rm := rmX11_namedValue) rfl rfl ⟨by dsimp only [rmSC2, rmX11_namedValue]; omega, by dsimp only [rmSC2, rmX11_namedValue]; omega⟩) hB rfl hl.1 rfl (lv_room (Nat.le_of_ble_eq_true rfl)) dX11_factor_101 ⟨Nat.zero_le _, Nat.zero_le _⟩ (fun H locs hB => ?_)
          cases h
          exact gRetI S.1 S.2.1 hr hlk hB dX11_factor_104
      · replace h := (if_neg c_7).symm.trans h
        refine lv_aload_n S.1 S.2.1 dX11_factor_80 rfl (lv_at hl 2 rfl) ?_
        refine lv_bipush (v := (24 : Int32)) S.1 S.2.1 dX11_factor_81 (by decide) ?_
        refine lv_iconst (v := (-1 : Int32)) S.1 S.2.1 dX11_factor_83 (by decide) ?_
        refine lv_iconst (v := (-1 : Int32)) S.1 S.2.1 dX11_factor_84 (by decide) ?_
        refine lv_iconst (v := (-1 : Int32)) S.1 S.2.1 dX11_factor_85 (by decide) ?_
        refine lv_iload_n S.1 S.2.1 dX11_factor_86 rfl (lv_at hl 0 rfl) ?_
        obtain ⟨r_38, σ_38, e_38, h⟩ := b2s h
        refine mCallI S hK mKSc hKS hA (kX11_node mKSc e_38) (cwX11_319 S.2.2.2.2 (rm := rmX11_node) rfl rfl ⟨by dsimp only [rmSC2, rmX11_node]; omega, by dsimp only [rmSC2, rmX11_node]; omega⟩) hB rfl hl.1 rfl (lv_room (Nat.le_of_ble_eq_true rfl)) dX11_factor_87 ⟨Nat.zero_le _, Nat.zero_le _⟩ (fun H locs hB => ?_)
        cases h
        exact gRetI S.1 S.2.1 hr hlk hB dX11_factor_90
    · replace h := (if_neg c_5).symm.trans h
      refine lv_aload_n S.1 S.2.1 dX11_factor_58 rfl (lv_at hl 2 rfl) ?_
      refine lv_bipush (v := (23 : Int32)) S.1 S.2.1 dX11_factor_59 (by decide) ?_
      refine lv_iconst (v := (-1 : Int32)) S.1 S.2.1 dX11_factor_61 (by decide) ?_
      refine lv_iconst (v := (-1 : Int32)) S.1 S.2.1 dX11_factor_62 (by decide) ?_
      refine lv_iconst (v := (-1 : Int32)) S.1 S.2.1 dX11_factor_63 (by decide) ?_
      refine lv_iload_n S.1 S.2.1 dX11_factor_64 rfl (lv_at hl 0 rfl) ?_
      obtain ⟨r_39, σ_39, e_39, h⟩ := b2s h
      refine mCallI S hK mKSc hKS hA (kX11_node mKSc e_39) (cwX11_319 S.2.2.2.2 (rm := rmX11_node) rfl rfl ⟨by dsimp only [rmSC2, rmX11_node]; omega, by dsimp only [rmSC2, rmX11_node]; omega⟩) hB rfl hl.1 rfl (lv_room (Nat.le_of_ble_eq_true rfl)) dX11_factor_65 ⟨Nat.zero_le _, Nat.zero_le _⟩ (fun H locs hB => ?_)
      cases h
      exact gRetI S.1 S.2.1 hr hlk hB dX11_factor_68
  · replace h := (if_pos c_3).symm.trans h
    refine lv_aload_n S.1 S.2.1 dX11_factor_32 rfl (lv_at hl 2 rfl) ?_
    refine lv_bipush (v := (20 : Int32)) S.1 S.2.1 dX11_factor_33 (by decide) ?_
    refine lv_aload_n S.1 S.2.1 dX11_factor_35 rfl (lv_at hl 2 rfl) ?_
    refine lv_iload_n S.1 S.2.1 dX11_factor_36 rfl (lv_at hl 1 rfl) ?_
    obtain ⟨r_40, σ_40, e_40, h⟩ := b2s h
    refine mCallI S hK mKSc hKS hA (kX11_numberOf mKSc e_40) (cwX11_300 S.2.2.2.2 (rm := rmX11_numberOf) rfl rfl ⟨by dsimp only [rmSC2, rmX11_numberOf]; omega, by dsimp only [rmSC2, rmX11_numberOf]; omega⟩) hB rfl hl.1 rfl (lv_room (Nat.le_of_ble_eq_true rfl)) dX11_factor_37 ⟨Nat.zero_le _, Nat.zero_le _⟩ (fun H locs hB => ?_)
    refine lv_iconst (v := (-1 : Int32)) S.1 S.2.1 dX11_factor_40 (by decide) ?_
    refine lv_iconst (v := (-1 : Int32)) S.1 S.2.1 dX11_factor_41 (by decide) ?_
    refine lv_iload_n S.1 S.2.1 dX11_factor_42 rfl (lv_at hl 0 rfl) ?_
    obtain ⟨r_41, σ_41, e_41, h⟩ := b2s h
    refine mCallI S hK mKSc hKS hA (kX11_node mKSc e_41) (cwX11_319 S.2.2.2.2 (rm := rmX11_node) rfl rfl ⟨by dsimp only [rmSC2, rmX11_node]; omega, by dsimp only [rmSC2, rmX11_node]; omega⟩) hB rfl hl.1 rfl (lv_room (Nat.le_of_ble_eq_true rfl)) dX11_factor_43 ⟨Nat.zero_le _, Nat.zero_le _⟩ (fun H locs hB => ?_)
    cases h
    exact gRetI S.1 S.2.1 hr hlk hB dX11_factor_46
def FSC2 (L : Nat) : Nat → RC
  | 0 => fun _ _ _ _ _ => none
  | d+1 => fun k a b w σ => if k = 0 then FX11_formula (FSC2 L d) L  σ else if k = 1 then FX11_row (FSC2 L d) L w σ else if k = 2 then FX11_since (FSC2 L d) L  σ else if k = 3 then FX11_one (FSC2 L d) L  σ else if k = 4 then FX11_fronted (FSC2 L d) L a b σ else if k = 5 then FX11_compare (FSC2 L d) L a σ else if k = 6 then FX11_expression (FSC2 L d) L  σ else if k = 7 then FX11_product (FSC2 L d) L  σ else if k = 8 then FX11_twoSided (FSC2 L d) L a σ else if k = 9 then FX11_braces (FSC2 L d)  σ else if k = 10 then FX11_factor (FSC2 L d) L  σ else none
theorem FSC2_0 {L d : Nat}  {σ : MS} : FSC2 L (d + 1) 0 0 0 0 σ = FX11_formula (FSC2 L d) L  σ := rfl
theorem FSC2_1 {L d : Nat} {w : Nat} {σ : MS} : FSC2 L (d + 1) 1 0 0 w σ = FX11_row (FSC2 L d) L w σ := rfl
theorem FSC2_2 {L d : Nat}  {σ : MS} : FSC2 L (d + 1) 2 0 0 0 σ = FX11_since (FSC2 L d) L  σ := rfl
theorem FSC2_3 {L d : Nat}  {σ : MS} : FSC2 L (d + 1) 3 0 0 0 σ = FX11_one (FSC2 L d) L  σ := rfl
theorem FSC2_4 {L d : Nat} {a : Int32} {b : Int32} {σ : MS} : FSC2 L (d + 1) 4 a b 0 σ = FX11_fronted (FSC2 L d) L a b σ := rfl
theorem FSC2_5 {L d : Nat} {a : Int32} {σ : MS} : FSC2 L (d + 1) 5 a 0 0 σ = FX11_compare (FSC2 L d) L a σ := rfl
theorem FSC2_6 {L d : Nat}  {σ : MS} : FSC2 L (d + 1) 6 0 0 0 σ = FX11_expression (FSC2 L d) L  σ := rfl
theorem FSC2_7 {L d : Nat}  {σ : MS} : FSC2 L (d + 1) 7 0 0 0 σ = FX11_product (FSC2 L d) L  σ := rfl
theorem FSC2_8 {L d : Nat} {a : Int32} {σ : MS} : FSC2 L (d + 1) 8 a 0 0 σ = FX11_twoSided (FSC2 L d) L a σ := rfl
theorem FSC2_9 {L d : Nat}  {σ : MS} : FSC2 L (d + 1) 9 0 0 0 σ = FX11_braces (FSC2 L d)  σ := rfl
theorem FSC2_10 {L d : Nat}  {σ : MS} : FSC2 L (d + 1) 10 0 0 0 σ = FX11_factor (FSC2 L d) L  σ := rfl
theorem SC2_all {l : Launch} {D : va_G} {cI cJ : ClassId} {ad adK adV tK : Nat → Nat} (L : Nat) : ∀ d : Nat, SC2 l D cI cJ ad adK adV tK d (FSC2 L d) := by
  intro d
  induction d with
  | zero => exact ⟨(fun h => by cases h), (fun h => by cases h), (fun h => by cases h), (fun h => by cases h), (fun h => by cases h), (fun h => by cases h), (fun h => by cases h), (fun h => by cases h), (fun h => by cases h), (fun h => by cases h), (fun h => by cases h)⟩
  | succ d ih => exact ⟨fun h => kX11_formula ih (FSC2_0.symm.trans h), fun h => kX11_row ih (FSC2_1.symm.trans h), fun h => kX11_since ih (FSC2_2.symm.trans h), fun h => kX11_one ih (FSC2_3.symm.trans h), fun h => kX11_fronted ih (FSC2_4.symm.trans h), fun h => kX11_compare ih (FSC2_5.symm.trans h), fun h => kX11_expression ih (FSC2_6.symm.trans h), fun h => kX11_product ih (FSC2_7.symm.trans h), fun h => kX11_twoSided ih (FSC2_8.symm.trans h), fun h => kX11_braces ih (FSC2_9.symm.trans h), fun h => kX11_factor ih (FSC2_10.symm.trans h)⟩
def dSC2 : Nat := 700
abbrev rtSC2 : Room := { frames := 720, cells := 0, slots := 0, locals := 28400 }
theorem tSC2_formula {l : Launch} {D : va_G} {cI cJ : ClassId} {ad adK adV tK : Nat → Nat} {L : Nat}  {σ σ' : MS} {r : Int32} (h : FSC2 L dSC2 0 0 0 0 σ = some (r, σ')) : gMet l yX11_formula qX11_formula rtSC2 0 0 D vwCl [(cI, .int), (cJ, .long)] (mKS adK adV tK) [.ref (ad 0)] (MW cI cJ ad σ) (MW cI cJ ad σ') (some (.int r)) := by
  have hrc : SC2 l D cI cJ ad adK adV tK dSC2 (FSC2 L dSC2) := SC2_all L dSC2
  exact hrc.1 h
theorem tSC2_row {l : Launch} {D : va_G} {cI cJ : ClassId} {ad adK adV tK : Nat → Nat} {L : Nat} {w : Nat} {σ σ' : MS} {r : Int32} (h : FSC2 L dSC2 1 0 0 w σ = some (r, σ')) : gMet l yX11_row qX11_row rtSC2 0 0 D vwCl [(cI, .int), (cJ, .long)] (mKS adK adV tK) [.ref (ad 0), .ref (adK w)] (MW cI cJ ad σ) (MW cI cJ ad σ') (some (.int r)) := by
  have hrc : SC2 l D cI cJ ad adK adV tK dSC2 (FSC2 L dSC2) := SC2_all L dSC2
  exact hrc.2.1 h
theorem tSC2_since {l : Launch} {D : va_G} {cI cJ : ClassId} {ad adK adV tK : Nat → Nat} {L : Nat}  {σ σ' : MS} {r : Int32} (h : FSC2 L dSC2 2 0 0 0 σ = some (r, σ')) : gMet l yX11_since qX11_since rtSC2 0 0 D vwCl [(cI, .int), (cJ, .long)] (mKS adK adV tK) [.ref (ad 0)] (MW cI cJ ad σ) (MW cI cJ ad σ') (some (.int r)) := by
  have hrc : SC2 l D cI cJ ad adK adV tK dSC2 (FSC2 L dSC2) := SC2_all L dSC2
  exact hrc.2.2.1 h
theorem tSC2_one {l : Launch} {D : va_G} {cI cJ : ClassId} {ad adK adV tK : Nat → Nat} {L : Nat}  {σ σ' : MS} {r : Int32} (h : FSC2 L dSC2 3 0 0 0 σ = some (r, σ')) : gMet l yX11_one qX11_one rtSC2 0 0 D vwCl [(cI, .int), (cJ, .long)] (mKS adK adV tK) [.ref (ad 0)] (MW cI cJ ad σ) (MW cI cJ ad σ') (some (.int r)) := by
  have hrc : SC2 l D cI cJ ad adK adV tK dSC2 (FSC2 L dSC2) := SC2_all L dSC2
  exact hrc.2.2.2.1 h
theorem tSC2_fronted {l : Launch} {D : va_G} {cI cJ : ClassId} {ad adK adV tK : Nat → Nat} {L : Nat} {a : Int32} {b : Int32} {σ σ' : MS} {r : Int32} (h : FSC2 L dSC2 4 a b 0 σ = some (r, σ')) : gMet l yX11_fronted qX11_fronted rtSC2 0 0 D vwCl [(cI, .int), (cJ, .long)] (mKS adK adV tK) [.ref (ad 0), .int a, .int b] (MW cI cJ ad σ) (MW cI cJ ad σ') (some (.int r)) := by
  have hrc : SC2 l D cI cJ ad adK adV tK dSC2 (FSC2 L dSC2) := SC2_all L dSC2
  exact hrc.2.2.2.2.1 h
theorem tSC2_compare {l : Launch} {D : va_G} {cI cJ : ClassId} {ad adK adV tK : Nat → Nat} {L : Nat} {a : Int32} {σ σ' : MS} {r : Int32} (h : FSC2 L dSC2 5 a 0 0 σ = some (r, σ')) : gMet l yX11_compare qX11_compare rtSC2 0 0 D vwCl [(cI, .int), (cJ, .long)] (mKS adK adV tK) [.ref (ad 0), .int a] (MW cI cJ ad σ) (MW cI cJ ad σ') (some (.int r)) := by
  have hrc : SC2 l D cI cJ ad adK adV tK dSC2 (FSC2 L dSC2) := SC2_all L dSC2
  exact hrc.2.2.2.2.2.1 h
theorem tSC2_expression {l : Launch} {D : va_G} {cI cJ : ClassId} {ad adK adV tK : Nat → Nat} {L : Nat}  {σ σ' : MS} {r : Int32} (h : FSC2 L dSC2 6 0 0 0 σ = some (r, σ')) : gMet l yX11_expression qX11_expression rtSC2 0 0 D vwCl [(cI, .int), (cJ, .long)] (mKS adK adV tK) [.ref (ad 0)] (MW cI cJ ad σ) (MW cI cJ ad σ') (some (.int r)) := by
  have hrc : SC2 l D cI cJ ad adK adV tK dSC2 (FSC2 L dSC2) := SC2_all L dSC2
  exact hrc.2.2.2.2.2.2.1 h
theorem tSC2_product {l : Launch} {D : va_G} {cI cJ : ClassId} {ad adK adV tK : Nat → Nat} {L : Nat}  {σ σ' : MS} {r : Int32} (h : FSC2 L dSC2 7 0 0 0 σ = some (r, σ')) : gMet l yX11_product qX11_product rtSC2 0 0 D vwCl [(cI, .int), (cJ, .long)] (mKS adK adV tK) [.ref (ad 0)] (MW cI cJ ad σ) (MW cI cJ ad σ') (some (.int r)) := by
  have hrc : SC2 l D cI cJ ad adK adV tK dSC2 (FSC2 L dSC2) := SC2_all L dSC2
  exact hrc.2.2.2.2.2.2.2.1 h
theorem tSC2_twoSided {l : Launch} {D : va_G} {cI cJ : ClassId} {ad adK adV tK : Nat → Nat} {L : Nat} {a : Int32} {σ σ' : MS} {r : Int32} (h : FSC2 L dSC2 8 a 0 0 σ = some (r, σ')) : gMet l yX11_twoSided qX11_twoSided rtSC2 0 0 D vwCl [(cI, .int), (cJ, .long)] (mKS adK adV tK) [.ref (ad 0), .int a] (MW cI cJ ad σ) (MW cI cJ ad σ') (some (.int r)) := by
  have hrc : SC2 l D cI cJ ad adK adV tK dSC2 (FSC2 L dSC2) := SC2_all L dSC2
  exact hrc.2.2.2.2.2.2.2.2.1 h
theorem tSC2_braces {l : Launch} {D : va_G} {cI cJ : ClassId} {ad adK adV tK : Nat → Nat} {L : Nat}  {σ σ' : MS} {r : Int32} (h : FSC2 L dSC2 9 0 0 0 σ = some (r, σ')) : gMet l yX11_braces qX11_braces rtSC2 0 0 D vwCl [(cI, .int), (cJ, .long)] (mKS adK adV tK) [.ref (ad 0)] (MW cI cJ ad σ) (MW cI cJ ad σ') (some (.int r)) := by
  have hrc : SC2 l D cI cJ ad adK adV tK dSC2 (FSC2 L dSC2) := SC2_all L dSC2
  exact hrc.2.2.2.2.2.2.2.2.2.1 h
theorem tSC2_factor {l : Launch} {D : va_G} {cI cJ : ClassId} {ad adK adV tK : Nat → Nat} {L : Nat}  {σ σ' : MS} {r : Int32} (h : FSC2 L dSC2 10 0 0 0 σ = some (r, σ')) : gMet l yX11_factor qX11_factor rtSC2 0 0 D vwCl [(cI, .int), (cJ, .long)] (mKS adK adV tK) [.ref (ad 0)] (MW cI cJ ad σ) (MW cI cJ ad σ') (some (.int r)) := by
  have hrc : SC2 l D cI cJ ad adK adV tK dSC2 (FSC2 L dSC2) := SC2_all L dSC2
  exact hrc.2.2.2.2.2.2.2.2.2.2 h
