def FX11_why_21 (L : Nat)   (σ1 : MS) : Option (Int32 × MS) :=
    b2 (FX11_no (1 : Int32) σ1) fun r_3 σ_3 =>
    some (r_3, σ_3)
def FX11_why (L : Nat) (p0 : Int32) (p1 : Int32) (p2 : Int32) (σ : MS) : Option (Int32 × MS) :=
  b2 (FX11_isWatch p0 (sI σ 0 (0 : Int32))) fun r_1 σ_1 =>
  if r_1 = 0 then
    FX11_why_21 L σ_1
  else
    b2 (FX11_isStep p1 σ_1) fun r_4 σ_4 =>
    if r_4 = 0 then
      FX11_why_21 L σ_4
    else
      b2 (FX11_watches p0 p1 σ_4) fun r_6 σ_6 =>
      if r_6 = 0 then
        if (((36 : Int32) + p0) < 0 ∨ 48 ≤ ((36 : Int32) + p0).toNatClampNeg) then none else
        b2 (FSC3 L dSC3 0 (σ_6.2.1 25 ((36 : Int32) + p0).toNatClampNeg) p1 0 σ_6) fun r_9 σ_9 =>
        if p2 = 0 then
          some (r_9, σ_9)
        else
          some (σ_9.1 39, σ_9)
      else
        b2 (FX11_no (2 : Int32) σ_6) fun r_11 σ_11 =>
        some (r_11, σ_11)
abbrev rmX11_why : Room := { frames := 1321, cells := 0, slots := 0, locals := 52424 }
set_option maxRecDepth 100000 in
set_option maxHeartbeats 4000000 in
theorem kX11_why {l : Launch} {D : va_G} {cI cJ : ClassId} {ad : Nat → Nat} {adK adV tK : Nat → Nat} {L : Nat} {p0 : Int32} {p1 : Int32} {p2 : Int32} {σ σ' : MS} {r : Int32} (h : FX11_why L p0 p1 p2 σ = some (r, σ')) : gMet l yX11_why qX11_why rmX11_why 0 0 D vwCl [(cI, .int), (cJ, .long)] (mKS adK adV tK) [.ref (ad 0), .int p0, .int p1, .int p2] (MW cI cJ ad σ) (MW cI cJ ad σ') (some (.int r)) := by
  refine gMet.of (cc := cX11_why) (maxL := 5) (ret := (some .int)) (by decide) rfl (Nat.le_of_ble_eq_true rfl) ?_
  intro p e s m args below meth c S hr hlk hnm hK hKS hA hB ls hl
  have hl : lv_has ls 5 [(0, .ref (ad 0)), (1, .int p0), (2, .int p1), (3, .int p2)] := hl
  replace S : CallFix p m c cX11_why 5 s args (_ :: wsL_law) RX11 := S
  rw [FX11_why] at h
  have P21 : ∀  (σ1 : MS) (H : Heap) (locs : List Loc) (ls : Array Slot), FX11_why_21 L  σ1 = some (r, σ') → gB D vwCl (va_A (MW cI cJ ad σ) s.heap.size) s.heap (MW cI cJ ad σ1) [] H locs → lv_has ls 5 [(0, .ref (ad 0))] → W p l e rmX11_why s m args below meth c H locs 0 0 (MQ below (gQ D vwCl (MW cI cJ ad σ) (MW cI cJ ad σ') (some (.int r)) s.heap.size) args s 0 0 (va_A (MW cI cJ ad σ) s.heap.size)) (F0 m 21 ls []) := by
    intro   σ1 H locs ls h hB hl
    rw [FX11_why_21] at h
    refine lv_aload_n S.1 S.2.1 dX11_why_21 rfl (lv_at hl 0 rfl) ?_
    refine lv_iconst (v := (1 : Int32)) S.1 S.2.1 dX11_why_22 (by decide) ?_
    obtain ⟨r_3, σ_3, e_3, h⟩ := b2s h
    refine mCallI S hK mKSc hKS hA (kX11_no mKSc e_3) (cwX11_97 S.2.2.2.2 (rm := rmX11_no) rfl rfl ⟨Nat.le_of_ble_eq_true rfl, Nat.le_of_ble_eq_true rfl⟩) hB rfl hl.1 rfl (lv_room (Nat.le_of_ble_eq_true rfl)) dX11_why_23 ⟨Nat.zero_le _, Nat.zero_le _⟩ (fun H locs hB => ?_)
    cases h
    exact gRetI S.1 S.2.1 hr hlk hB dX11_why_26
  refine lv_aload_n S.1 S.2.1 dX11_why_0 rfl (lv_at hl 0 rfl) ?_
  refine lv_iconst (v := (0 : Int32)) S.1 S.2.1 dX11_why_1 (by decide) ?_
  refine mp_thrown S hK hB wf_X11_91 dX11_why_2 (fun H locs hB => ?_)
  refine lv_aload_n S.1 S.2.1 dX11_why_5 rfl (lv_at hl 0 rfl) ?_
  refine lv_iload_n S.1 S.2.1 dX11_why_6 rfl (lv_at hl 1 rfl) ?_
  obtain ⟨r_1, σ_1, e_1, h⟩ := b2s h
  refine mCallI S hK mKSc hKS hA (kX11_isWatch mKSc e_1) (cwX11_465 S.2.2.2.2 (rm := rmX11_isWatch) rfl rfl ⟨Nat.le_of_ble_eq_true rfl, Nat.le_of_ble_eq_true rfl⟩) hB rfl hl.1 rfl (lv_room (Nat.le_of_ble_eq_true rfl)) dX11_why_7 ⟨Nat.zero_le _, Nat.zero_le _⟩ (fun H locs hB => ?_)
  refine lv_if_eq (tgt := 21) S.1 S.2.1 dX11_why_10 (by decide) (fun c_2 => ?_) (fun c_2 => ?_)
  · replace h := (if_pos c_2).symm.trans h
    exact P21  _ _ _ _ h hB (lv_sub hl [0] rfl)
  · replace h := (if_neg c_2).symm.trans h
    refine lv_aload_n S.1 S.2.1 dX11_why_13 rfl (lv_at hl 0 rfl) ?_
    refine lv_iload_n S.1 S.2.1 dX11_why_14 rfl (lv_at hl 2 rfl) ?_
    obtain ⟨r_4, σ_4, e_4, h⟩ := b2s h
    refine mCallI S hK mKSc hKS hA (kX11_isStep mKSc e_4) (cwX11_462 S.2.2.2.2 (rm := rmX11_isStep) rfl rfl ⟨Nat.le_of_ble_eq_true rfl, Nat.le_of_ble_eq_true rfl⟩) hB rfl hl.1 rfl (lv_room (Nat.le_of_ble_eq_true rfl)) dX11_why_15 ⟨Nat.zero_le _, Nat.zero_le _⟩ (fun H locs hB => ?_)
    refine lv_if_ne (tgt := 27) S.1 S.2.1 dX11_why_18 (by decide) (fun c_5 => ?_) (fun c_5 => ?_)
    · replace h := (if_neg c_5).symm.trans h
      refine lv_aload_n S.1 S.2.1 dX11_why_27 rfl (lv_at hl 0 rfl) ?_
      refine lv_iload_n S.1 S.2.1 dX11_why_28 rfl (lv_at hl 1 rfl) ?_
      refine lv_iload_n S.1 S.2.1 dX11_why_29 rfl (lv_at hl 2 rfl) ?_
      obtain ⟨r_6, σ_6, e_6, h⟩ := b2s h
      refine mCallI S hK mKSc hKS hA (kX11_watches mKSc e_6) (cwX11_446 S.2.2.2.2 (rm := rmX11_watches) rfl rfl ⟨Nat.le_of_ble_eq_true rfl, Nat.le_of_ble_eq_true rfl⟩) hB rfl hl.1 rfl (lv_room (Nat.le_of_ble_eq_true rfl)) dX11_why_30 ⟨Nat.zero_le _, Nat.zero_le _⟩ (fun H locs hB => ?_)
      refine lv_if_eq (tgt := 42) S.1 S.2.1 dX11_why_33 (by decide) (fun c_7 => ?_) (fun c_7 => ?_)
      · replace h := (if_pos c_7).symm.trans h
        refine lv_aload_n S.1 S.2.1 dX11_why_42 rfl (lv_at hl 0 rfl) ?_
        refine lv_aload_n S.1 S.2.1 dX11_why_43 rfl (lv_at hl 0 rfl) ?_
        refine mg_tops S hK hB wf_X11_67 dX11_why_44 ?_
        refine lv_bipush (v := (36 : Int32)) S.1 S.2.1 dX11_why_47 (by decide) ?_
        refine lv_iload_n S.1 S.2.1 dX11_why_49 rfl (lv_at hl 1 rfl) ?_
        refine lv_iadd S.1 S.2.1 dX11_why_50 ?_
        obtain ⟨b_8, h⟩ := gd h
        refine ml_tops (v := (σ_6.2.1 25 ((36 : Int32) + p0).toNatClampNeg)) S hK hB b_8 rfl dX11_why_51 ?_
        refine lv_iload_n S.1 S.2.1 dX11_why_52 rfl (lv_at hl 2 rfl) ?_
        obtain ⟨r_9, σ_9, e_9, h⟩ := b2s h
        refine mCallI S hK mKSc hKS hA (tSC3_reason e_9) (cwX11_471 S.2.2.2.2 (rm := rtSC3) rfl rfl ⟨Nat.le_of_ble_eq_true rfl, Nat.le_of_ble_eq_true rfl⟩) hB rfl hl.1 rfl (lv_room (Nat.le_of_ble_eq_true rfl)) dX11_why_53 ⟨Nat.zero_le _, Nat.zero_le _⟩ (fun H locs hB => ?_)
        refine lv_istore (lv' := [(4, .int r_9), (0, .ref (ad 0)), (1, .int p0), (2, .int p1), (3, .int p2)]) S.1 S.2.1 dX11_why_56 hl (by decide) rfl (fun ls hl => ?_)
        refine lv_iload_n S.1 S.2.1 dX11_why_58 rfl (lv_at hl 4 rfl) ?_
        refine lv_if_eq (tgt := 69) S.1 S.2.1 dX11_why_59 (by decide) (fun c_10 => ?_) (fun c_10 => ?_)
        · replace h := (if_pos c_10).symm.trans h
          refine lv_iload S.1 S.2.1 dX11_why_69 (lv_at hl 0 rfl) ?_
          cases h
          exact gRetI S.1 S.2.1 hr hlk hB dX11_why_71
        · replace h := (if_neg c_10).symm.trans h
          refine lv_aload_n S.1 S.2.1 dX11_why_62 rfl (lv_at hl 1 rfl) ?_
          refine mg_reasonStep S hK hB wf_X11_474 rfl dX11_why_63 ?_
          refine lv_goto (tgt := 71) S.1 S.2.1 dX11_why_66 (by decide) ?_
          cases h
          exact gRetI S.1 S.2.1 hr hlk hB dX11_why_71
      · replace h := (if_neg c_7).symm.trans h
        refine lv_aload_n S.1 S.2.1 dX11_why_36 rfl (lv_at hl 0 rfl) ?_
        refine lv_iconst (v := (2 : Int32)) S.1 S.2.1 dX11_why_37 (by decide) ?_
        obtain ⟨r_11, σ_11, e_11, h⟩ := b2s h
        refine mCallI S hK mKSc hKS hA (kX11_no mKSc e_11) (cwX11_97 S.2.2.2.2 (rm := rmX11_no) rfl rfl ⟨Nat.le_of_ble_eq_true rfl, Nat.le_of_ble_eq_true rfl⟩) hB rfl hl.1 rfl (lv_room (Nat.le_of_ble_eq_true rfl)) dX11_why_38 ⟨Nat.zero_le _, Nat.zero_le _⟩ (fun H locs hB => ?_)
        cases h
        exact gRetI S.1 S.2.1 hr hlk hB dX11_why_41
    · replace h := (if_pos c_5).symm.trans h
      exact P21  _ _ _ _ h hB (lv_sub hl [0] rfl)
def FX11_ask_92 (L : Nat)  (x1 : Int32) (x2 : Int32) (σ1 : MS) : Option (Int32 × MS) :=
    if x1 = 0 then
      b2 (FX11_moveQuestion L x2 (sI σ1 2 (0 : Int32))) fun r_8 σ_8 =>
      some ((0 : Int32), (sI (sI σ_8 28 r_8) 40 (σ_8.1 8)))
    else
      some (x1, (sI σ1 2 (0 : Int32)))
def FX11_ask_77 (L : Nat)  (x1 : Int32) (y0 : Int32) (σ1 : MS) : Option (Int32 × MS) :=
    if x1 = 0 then
      b2 (FSC2 L dSC2 0 0 0 0 (sI σ1 8 y0)) fun r_9 σ_9 =>
      FX11_ask_92 L r_9 y0 σ_9
    else
      FX11_ask_92 L x1 y0 (sI σ1 8 y0)
def FX11_ask_52 (L : Nat)  (y0 : Int32) (σ1 : MS) : Option (Int32 × MS) :=
    if (σ1.1 28) = (-1 : Int32) then
      FX11_ask_77 L y0 (σ1.1 27) (sI σ1 7 (0 : Int32))
    else
      FX11_ask_77 L y0 (σ1.1 40) (sI σ1 7 (0 : Int32))
def FX11_ask_43 (L : Nat)   (σ1 : MS) : Option (Int32 × MS) :=
    b2 (FX11_wrong (1 : Int32) (σ1.1 7) σ1) fun r_4 σ_4 =>
    FX11_ask_52 L r_4 σ_4
def FX11_ask (L : Nat)  (σ : MS) : Option (Int32 × MS) :=
  b2 (FX11_scan L (sI (sI σ 0 (0 : Int32)) 3 (-1 : Int32))) fun (_ : Unit) σ_1 =>
  b2 (FSC1 L dSC1 0 (0 : Int32) 0 0 (sI σ_1 7 (0 : Int32))) fun r_2 σ_2 =>
  if r_2 = 0 then
    FX11_ask_43 L σ_2
  else
    if ((σ_2.1 7) < 0 ∨ 1801 ≤ (σ_2.1 7).toNatClampNeg) then none else
    if (σ_2.2.1 4 (σ_2.1 7).toNatClampNeg) = 0 then
      FX11_ask_52 L (0 : Int32) σ_2
    else
      FX11_ask_43 L σ_2
abbrev rmX11_ask : Room := { frames := 721, cells := 0, slots := 0, locals := 28422 }
set_option maxRecDepth 100000 in
set_option maxHeartbeats 4000000 in
theorem kX11_ask {l : Launch} {D : va_G} {cI cJ : ClassId} {ad : Nat → Nat} {adK adV tK : Nat → Nat} {L : Nat}  {σ σ' : MS} {r : Int32} (h : FX11_ask L  σ = some (r, σ')) : gMet l yX11_ask qX11_ask rmX11_ask 0 0 D vwCl [(cI, .int), (cJ, .long)] (mKS adK adV tK) [.ref (ad 0)] (MW cI cJ ad σ) (MW cI cJ ad σ') (some (.int r)) := by
  refine gMet.of (cc := cX11_ask) (maxL := 3) (ret := (some .int)) (by decide) rfl (Nat.le_of_ble_eq_true rfl) ?_
  intro p e s m args below meth c S hr hlk hnm hK hKS hA hB ls hl
  have hl : lv_has ls 3 [(0, .ref (ad 0))] := hl
  replace S : CallFix p m c cX11_ask 3 s args (_ :: wsL_law) RX11 := S
  rw [FX11_ask] at h
  have P92 : ∀ (x1 : Int32) (x2 : Int32) (σ1 : MS) (H : Heap) (locs : List Loc) (ls : Array Slot), FX11_ask_92 L x1 x2 σ1 = some (r, σ') → gB D vwCl (va_A (MW cI cJ ad σ) s.heap.size) s.heap (MW cI cJ ad σ1) [] H locs → lv_has ls 3 [(0, .ref (ad 0)), (1, .int x1), (2, .int x2)] → W p l e rmX11_ask s m args below meth c H locs 0 0 (MQ below (gQ D vwCl (MW cI cJ ad σ) (MW cI cJ ad σ') (some (.int r)) s.heap.size) args s 0 0 (va_A (MW cI cJ ad σ) s.heap.size)) (F0 m 92 ls []) := by
    intro  x1 x2 σ1 H locs ls h hB hl
    rw [FX11_ask_92] at h
    refine lv_aload_n S.1 S.2.1 dX11_ask_92 rfl (lv_at hl 0 rfl) ?_
    refine lv_iconst (v := (0 : Int32)) S.1 S.2.1 dX11_ask_93 (by decide) ?_
    refine mp_length S hK hB wf_X11_94 dX11_ask_94 (fun H locs hB => ?_)
    refine lv_iload_n S.1 S.2.1 dX11_ask_97 rfl (lv_at hl 1 rfl) ?_
    refine lv_if_eq (tgt := 103) S.1 S.2.1 dX11_ask_98 (by decide) (fun c_7 => ?_) (fun c_7 => ?_)
    · replace h := (if_pos c_7).symm.trans h
      refine lv_aload_n S.1 S.2.1 dX11_ask_103 rfl (lv_at hl 0 rfl) ?_
      refine lv_aload_n S.1 S.2.1 dX11_ask_104 rfl (lv_at hl 0 rfl) ?_
      refine lv_iload_n S.1 S.2.1 dX11_ask_105 rfl (lv_at hl 2 rfl) ?_
      obtain ⟨r_8, σ_8, e_8, h⟩ := b2s h
      refine mCallI S hK mKSc hKS hA (kX11_moveQuestion mKSc e_8) (cwX11_480 S.2.2.2.2 (rm := rmX11_moveQuestion) rfl rfl ⟨Nat.le_of_ble_eq_true rfl, Nat.le_of_ble_eq_true rfl⟩) hB rfl hl.1 rfl (lv_room (Nat.le_of_ble_eq_true rfl)) dX11_ask_106 ⟨Nat.zero_le _, Nat.zero_le _⟩ (fun H locs hB => ?_)
      refine mp_asked S hK hB wf_X11_73 dX11_ask_109 (fun H locs hB => ?_)
      refine lv_aload_n S.1 S.2.1 dX11_ask_112 rfl (lv_at hl 0 rfl) ?_
      refine lv_aload_n S.1 S.2.1 dX11_ask_113 rfl (lv_at hl 0 rfl) ?_
      refine mg_nodes (v := (σ_8.1 8)) S hK hB wf_X11_312 rfl dX11_ask_114 ?_
      refine mp_askedEnd S hK hB wf_X11_477 dX11_ask_117 (fun H locs hB => ?_)
      refine lv_iconst (v := (0 : Int32)) S.1 S.2.1 dX11_ask_120 (by decide) ?_
      cases h
      exact gRetI S.1 S.2.1 hr hlk hB dX11_ask_121
    · replace h := (if_neg c_7).symm.trans h
      refine lv_iload_n S.1 S.2.1 dX11_ask_101 rfl (lv_at hl 1 rfl) ?_
      cases h
      exact gRetI S.1 S.2.1 hr hlk hB dX11_ask_102
  have P77 : ∀ (x1 : Int32) (y0 : Int32) (σ1 : MS) (H : Heap) (locs : List Loc) (ls : Array Slot), FX11_ask_77 L x1 y0 σ1 = some (r, σ') → gB D vwCl (va_A (MW cI cJ ad σ) s.heap.size) s.heap (MW cI cJ ad σ1) [] H locs → lv_has ls 3 [(0, .ref (ad 0)), (1, .int x1)] → W p l e rmX11_ask s m args below meth c H locs 0 0 (MQ below (gQ D vwCl (MW cI cJ ad σ) (MW cI cJ ad σ') (some (.int r)) s.heap.size) args s 0 0 (va_A (MW cI cJ ad σ) s.heap.size)) (F0 m 77 ls [.int y0]) := by
    intro  x1 y0 σ1 H locs ls h hB hl
    rw [FX11_ask_77] at h
    refine lv_istore_n (lv' := [(2, .int y0), (0, .ref (ad 0)), (1, .int x1)]) S.1 S.2.1 dX11_ask_77 rfl hl (by decide) rfl (fun ls hl => ?_)
    refine lv_aload_n S.1 S.2.1 dX11_ask_78 rfl (lv_at hl 1 rfl) ?_
    refine lv_iload_n S.1 S.2.1 dX11_ask_79 rfl (lv_at hl 0 rfl) ?_
    refine mp_nodes S hK hB wf_X11_312 dX11_ask_80 (fun H locs hB => ?_)
    refine lv_iload_n S.1 S.2.1 dX11_ask_83 rfl (lv_at hl 2 rfl) ?_
    refine lv_if_ne (tgt := 92) S.1 S.2.1 dX11_ask_84 (by decide) (fun c_6 => ?_) (fun c_6 => ?_)
    · replace h := (if_neg c_6).symm.trans h
      exact P92  _ _ _ _ _ _ h hB (lv_sub hl [1, 2, 0] rfl)
    · replace h := (if_pos c_6).symm.trans h
      refine lv_aload_n S.1 S.2.1 dX11_ask_87 rfl (lv_at hl 1 rfl) ?_
      obtain ⟨r_9, σ_9, e_9, h⟩ := b2s h
      refine mCallI S hK mKSc hKS hA (tSC2_formula e_9) (cwX11_306 S.2.2.2.2 (rm := rtSC2) rfl rfl ⟨Nat.le_of_ble_eq_true rfl, Nat.le_of_ble_eq_true rfl⟩) hB rfl hl.1 rfl (lv_room (Nat.le_of_ble_eq_true rfl)) dX11_ask_88 ⟨Nat.zero_le _, Nat.zero_le _⟩ (fun H locs hB => ?_)
      refine lv_istore_n (lv' := [(1, .int r_9), (2, .int y0), (0, .ref (ad 0))]) S.1 S.2.1 dX11_ask_91 rfl hl (by decide) rfl (fun ls hl => ?_)
      exact P92  _ _ _ _ _ _ h hB (lv_sub hl [2, 0, 1] rfl)
  have P52 : ∀ (y0 : Int32) (σ1 : MS) (H : Heap) (locs : List Loc) (ls : Array Slot), FX11_ask_52 L y0 σ1 = some (r, σ') → gB D vwCl (va_A (MW cI cJ ad σ) s.heap.size) s.heap (MW cI cJ ad σ1) [] H locs → lv_has ls 3 [(0, .ref (ad 0))] → W p l e rmX11_ask s m args below meth c H locs 0 0 (MQ below (gQ D vwCl (MW cI cJ ad σ) (MW cI cJ ad σ') (some (.int r)) s.heap.size) args s 0 0 (va_A (MW cI cJ ad σ) s.heap.size)) (F0 m 52 ls [.int y0]) := by
    intro  y0 σ1 H locs ls h hB hl
    rw [FX11_ask_52] at h
    refine lv_istore_n (lv' := [(1, .int y0), (0, .ref (ad 0))]) S.1 S.2.1 dX11_ask_52 rfl hl (by decide) rfl (fun ls hl => ?_)
    refine lv_aload_n S.1 S.2.1 dX11_ask_53 rfl (lv_at hl 1 rfl) ?_
    refine lv_iconst (v := (0 : Int32)) S.1 S.2.1 dX11_ask_54 (by decide) ?_
    refine mp_at S hK hB wf_X11_152 dX11_ask_55 (fun H locs hB => ?_)
    refine lv_aload_n S.1 S.2.1 dX11_ask_58 rfl (lv_at hl 1 rfl) ?_
    refine mg_asked (v := (σ1.1 28)) S hK hB wf_X11_73 rfl dX11_ask_59 ?_
    refine lv_iconst (v := (-1 : Int32)) S.1 S.2.1 dX11_ask_62 (by decide) ?_
    refine lv_icmp_ne (tgt := 73) S.1 S.2.1 dX11_ask_63 (by decide) (fun c_5 => ?_) (fun c_5 => ?_)
    · replace h := (if_neg c_5).symm.trans h
      refine lv_aload_n S.1 S.2.1 dX11_ask_73 rfl (lv_at hl 1 rfl) ?_
      refine mg_askedEnd (v := (σ1.1 40)) S hK hB wf_X11_477 rfl dX11_ask_74 ?_
      exact P77  _ _ _ _ _ _ h hB (lv_sub hl [1, 0] rfl)
    · replace h := (if_pos c_5).symm.trans h
      refine lv_aload_n S.1 S.2.1 dX11_ask_66 rfl (lv_at hl 1 rfl) ?_
      refine mg_programNodes (v := (σ1.1 27)) S hK hB wf_X11_366 rfl dX11_ask_67 ?_
      refine lv_goto (tgt := 77) S.1 S.2.1 dX11_ask_70 (by decide) ?_
      exact P77  _ _ _ _ _ _ h hB (lv_sub hl [1, 0] rfl)
  have P43 : ∀  (σ1 : MS) (H : Heap) (locs : List Loc) (ls : Array Slot), FX11_ask_43 L  σ1 = some (r, σ') → gB D vwCl (va_A (MW cI cJ ad σ) s.heap.size) s.heap (MW cI cJ ad σ1) [] H locs → lv_has ls 3 [(0, .ref (ad 0))] → W p l e rmX11_ask s m args below meth c H locs 0 0 (MQ below (gQ D vwCl (MW cI cJ ad σ) (MW cI cJ ad σ') (some (.int r)) s.heap.size) args s 0 0 (va_A (MW cI cJ ad σ) s.heap.size)) (F0 m 43 ls []) := by
    intro   σ1 H locs ls h hB hl
    rw [FX11_ask_43] at h
    refine lv_aload_n S.1 S.2.1 dX11_ask_43 rfl (lv_at hl 0 rfl) ?_
    refine lv_iconst (v := (1 : Int32)) S.1 S.2.1 dX11_ask_44 (by decide) ?_
    refine lv_aload_n S.1 S.2.1 dX11_ask_45 rfl (lv_at hl 0 rfl) ?_
    refine mg_at S hK hB wf_X11_152 rfl dX11_ask_46 ?_
    obtain ⟨r_4, σ_4, e_4, h⟩ := b2s h
    refine mCallI S hK mKSc hKS hA (kX11_wrong mKSc e_4) (cwX11_294 S.2.2.2.2 (rm := rmX11_wrong) rfl rfl ⟨Nat.le_of_ble_eq_true rfl, Nat.le_of_ble_eq_true rfl⟩) hB rfl hl.1 rfl (lv_room (Nat.le_of_ble_eq_true rfl)) dX11_ask_49 ⟨Nat.zero_le _, Nat.zero_le _⟩ (fun H locs hB => ?_)
    exact P52  _ _ _ _ _ h hB hl
  refine lv_aload_n S.1 S.2.1 dX11_ask_0 rfl (lv_at hl 0 rfl) ?_
  refine lv_iconst (v := (0 : Int32)) S.1 S.2.1 dX11_ask_1 (by decide) ?_
  refine mp_thrown S hK hB wf_X11_91 dX11_ask_2 (fun H locs hB => ?_)
  refine lv_aload_n S.1 S.2.1 dX11_ask_5 rfl (lv_at hl 0 rfl) ?_
  refine lv_iconst (v := (-1 : Int32)) S.1 S.2.1 dX11_ask_6 (by decide) ?_
  refine mp_errorAt S hK hB wf_X11_13 dX11_ask_7 (fun H locs hB => ?_)
  refine lv_aload_n S.1 S.2.1 dX11_ask_10 rfl (lv_at hl 0 rfl) ?_
  obtain ⟨_, σ_1, e_1, h⟩ := b2s h
  refine mCallV S hK mKSc hKS hA (kX11_scan e_1) (cwX11_375 S.2.2.2.2 (rm := rmX11_scan) rfl rfl ⟨Nat.le_of_ble_eq_true rfl, Nat.le_of_ble_eq_true rfl⟩) hB rfl hl.1 rfl (lv_room (Nat.le_of_ble_eq_true rfl)) dX11_ask_11 ⟨Nat.zero_le _, Nat.zero_le _⟩ (fun H locs hB => ?_)
  refine lv_aload_n S.1 S.2.1 dX11_ask_14 rfl (lv_at hl 0 rfl) ?_
  refine lv_iconst (v := (0 : Int32)) S.1 S.2.1 dX11_ask_15 (by decide) ?_
  refine mp_at S hK hB wf_X11_152 dX11_ask_16 (fun H locs hB => ?_)
  refine lv_aload_n S.1 S.2.1 dX11_ask_19 rfl (lv_at hl 0 rfl) ?_
  refine lv_iconst (v := (0 : Int32)) S.1 S.2.1 dX11_ask_20 (by decide) ?_
  obtain ⟨r_2, σ_2, e_2, h⟩ := b2s h
  refine mCallI S hK mKSc hKS hA (tSC1_formulaForm e_2) (cwX11_190 S.2.2.2.2 (rm := rtSC1) rfl rfl ⟨Nat.le_of_ble_eq_true rfl, Nat.le_of_ble_eq_true rfl⟩) hB rfl hl.1 rfl (lv_room (Nat.le_of_ble_eq_true rfl)) dX11_ask_21 ⟨Nat.zero_le _, Nat.zero_le _⟩ (fun H locs hB => ?_)
  refine lv_if_eq (tgt := 43) S.1 S.2.1 dX11_ask_24 (by decide) (fun c_3 => ?_) (fun c_3 => ?_)
  · replace h := (if_pos c_3).symm.trans h
    exact P43  _ _ _ _ h hB hl
  · replace h := (if_neg c_3).symm.trans h
    refine lv_aload_n S.1 S.2.1 dX11_ask_27 rfl (lv_at hl 0 rfl) ?_
    refine mg_kinds S hK hB wf_X11_17 dX11_ask_28 ?_
    refine lv_aload_n S.1 S.2.1 dX11_ask_31 rfl (lv_at hl 0 rfl) ?_
    refine mg_at S hK hB wf_X11_152 rfl dX11_ask_32 ?_
    obtain ⟨b_10, h⟩ := gd h
    refine ml_kinds (v := (σ_2.2.1 4 (σ_2.1 7).toNatClampNeg)) S hK hB b_10 rfl dX11_ask_35 ?_
    refine lv_if_ne (tgt := 43) S.1 S.2.1 dX11_ask_36 (by decide) (fun c_11 => ?_) (fun c_11 => ?_)
    · replace h := (if_neg c_11).symm.trans h
      exact P43  _ _ _ _ h hB hl
    · replace h := (if_pos c_11).symm.trans h
      refine lv_iconst (v := (0 : Int32)) S.1 S.2.1 dX11_ask_39 (by decide) ?_
      refine lv_goto (tgt := 52) S.1 S.2.1 dX11_ask_40 (by decide) ?_
      exact P52  _ _ _ _ _ h hB hl
