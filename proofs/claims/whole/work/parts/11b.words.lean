def FX11_is_49 (L : Nat) (w : Nat)  : Nat → Int32 → Int32 → Int32 → MS → Option (Int32 × MS)
  | 0, _, _, _, _ => none
  | n+1, x1, x3, x4, σ1 =>
    (FJ0_length_8abf5 w).bind fun r_7 =>
    if r_7 ≤ x4 then
      if (x3 ≠ 0 ∧ x3 ≠ 1) then none else
      some (x3, σ1)
    else
      if x3 = 0 then
        if (x3 ≠ 0 ∧ x3 ≠ 1) then none else
        some (x3, σ1)
      else
        if (x1 < 0 ∨ 1801 ≤ x1.toNatClampNeg) then none else
        if (((σ1.2.1 5 x1.toNatClampNeg) + x4) < 0 ∨ 1800 ≤ ((σ1.2.1 5 x1.toNatClampNeg) + x4).toNatClampNeg) then none else
        (FJ0_charAt_5068e w x4).bind fun r_14 =>
        if (σ1.2.1 1 ((σ1.2.1 5 x1.toNatClampNeg) + x4).toNatClampNeg) = r_14 then
          (FX11_is_49 L w n) x1 (1 : Int32) (x4 + (1 : Int32)) σ1
        else
          (FX11_is_49 L w n) x1 (0 : Int32) (x4 + (1 : Int32)) σ1
def FX11_is_20 (L : Nat) (w : Nat)  (x1 : Int32) (σ1 : MS) : Option (Int32 × MS) :=
    if (x1 < 0 ∨ 1801 ≤ x1.toNatClampNeg) then none else
    if (x1 < 0 ∨ 1801 ≤ x1.toNatClampNeg) then none else
    (FJ0_length_8abf5 w).bind fun r_5 =>
    if ((σ1.2.1 6 x1.toNatClampNeg) - (σ1.2.1 5 x1.toNatClampNeg)) = r_5 then
      FX11_is_49 L w L x1 (1 : Int32) (0 : Int32) σ1
    else
      FX11_is_49 L w L x1 (0 : Int32) (0 : Int32) σ1
def FX11_is (L : Nat) (p0 : Int32) (w : Nat) (σ : MS) : Option (Int32 × MS) :=
  if ¬ (w < 53) then none else
  if (p0 < 0 ∨ 1801 ≤ p0.toNatClampNeg) then none else
  if (σ.2.1 4 p0.toNatClampNeg) = (1 : Int32) then
    FX11_is_20 L w p0 σ
  else
    if (p0 < 0 ∨ 1801 ≤ p0.toNatClampNeg) then none else
    if (σ.2.1 4 p0.toNatClampNeg) = (3 : Int32) then
      FX11_is_20 L w p0 σ
    else
      FX11_is_49 L w L p0 (0 : Int32) (0 : Int32) σ
abbrev rmX11_is : Room := { frames := 4, cells := 0, slots := 0, locals := 85 }
set_option maxRecDepth 100000 in
set_option maxHeartbeats 4000000 in
theorem kX11_is {l : Launch} {D : va_G} {cI cJ : ClassId} {ad : Nat → Nat} {adK adV tK : Nat → Nat} {L : Nat} {p0 : Int32} {w : Nat} {σ σ' : MS} {r : Int32} (h : FX11_is L p0 w σ = some (r, σ')) : gMet l yX11_is qX11_is rmX11_is 0 0 D vwCl [(cI, .int), (cJ, .long)] (mKS adK adV tK) [.ref (ad 0), .int p0, .ref (adK w)] (MW cI cJ ad σ) (MW cI cJ ad σ') (some (.int r)) := by
  refine gMet.of (cc := cX11_is) (maxL := 5) (ret := (some .boolean)) (by decide) rfl (Nat.le_of_ble_eq_true rfl) ?_
  intro p e s m args below meth c S hr hlk hnm hK hKS hA hB ls hl
  have hl : lv_has ls 5 [(0, .ref (ad 0)), (1, .int p0), (2, .ref (adK w))] := hl
  replace S : CallFix p m c cX11_is 5 s args (_ :: wsL_law) RX11 := S
  rw [FX11_is] at h
  obtain ⟨hw, h⟩ := gd h
  replace hw := Decidable.not_not.mp hw
  have P49 : ∀  (n : Nat), ∀ (x1 : Int32) (x3 : Int32) (x4 : Int32) (σ1 : MS) (H : Heap) (locs : List Loc) (ls : Array Slot), FX11_is_49 L w n x1 x3 x4 σ1 = some (r, σ') → gB D vwCl (va_A (MW cI cJ ad σ) s.heap.size) s.heap (MW cI cJ ad σ1) [] H locs → lv_has ls 5 [(0, .ref (ad 0)), (1, .int x1), (2, .ref (adK w)), (3, .int x3), (4, .int x4)] → W p l e rmX11_is s m args below meth c H locs 0 0 (MQ below (gQ D vwCl (MW cI cJ ad σ) (MW cI cJ ad σ') (some (.int r)) s.heap.size) args s 0 0 (va_A (MW cI cJ ad σ) s.heap.size)) (F0 m 49 ls []) := by
    intro n
    induction n with
    | zero => intro x1 x3 x4 σ1 H locs ls h; simp only [FX11_is_49] at h; cases h
    | succ n ih =>
      intro x1 x3 x4 σ1 H locs ls h hB hl
      rw [FX11_is_49] at h
      refine lv_iload S.1 S.2.1 dX11_is_49 (lv_at hl 4 rfl) ?_
      refine lv_aload_n S.1 S.2.1 dX11_is_51 rfl (lv_at hl 2 rfl) ?_
      obtain ⟨r_7, e_7, h⟩ := bnd h
      refine mCallTI S hK mKSc hKS hA (kJ0_length_8abf5 hw e_7) (cwX11_131 S.2.2.2.2 (rm := rmJ0_length_8abf5) rfl rfl ⟨Nat.le_of_ble_eq_true rfl, Nat.le_of_ble_eq_true rfl⟩) (vk_recv hKS.1 hw hB.2.2) hB rfl hl.1 rfl (lv_room (Nat.le_of_ble_eq_true rfl)) dX11_is_52 ⟨Nat.zero_le _, Nat.zero_le _⟩ (fun H locs hB => ?_)
      refine lv_icmp_ge (tgt := 97) S.1 S.2.1 dX11_is_55 (by decide) (fun c_8 => ?_) (fun c_8 => ?_)
      · replace h := (if_pos c_8).symm.trans h
        refine lv_iload_n S.1 S.2.1 dX11_is_97 rfl (lv_at hl 3 rfl) ?_
        obtain ⟨z_9, h⟩ := gd h
        cases h
        exact gRetZ S.1 S.2.1 hr hlk hB (nzB z_9) dX11_is_98
      · replace h := (if_neg c_8).symm.trans h
        refine lv_iload_n S.1 S.2.1 dX11_is_58 rfl (lv_at hl 3 rfl) ?_
        refine lv_if_eq (tgt := 97) S.1 S.2.1 dX11_is_59 (by decide) (fun c_10 => ?_) (fun c_10 => ?_)
        · replace h := (if_pos c_10).symm.trans h
          refine lv_iload_n S.1 S.2.1 dX11_is_97 rfl (lv_at hl 3 rfl) ?_
          obtain ⟨z_11, h⟩ := gd h
          cases h
          exact gRetZ S.1 S.2.1 hr hlk hB (nzB z_11) dX11_is_98
        · replace h := (if_neg c_10).symm.trans h
          refine lv_aload_n S.1 S.2.1 dX11_is_62 rfl (lv_at hl 0 rfl) ?_
          refine mg_tape S hK hB wf_X11_9 dX11_is_63 ?_
          refine lv_aload_n S.1 S.2.1 dX11_is_66 rfl (lv_at hl 0 rfl) ?_
          refine mg_froms S hK hB wf_X11_20 dX11_is_67 ?_
          refine lv_iload_n S.1 S.2.1 dX11_is_70 rfl (lv_at hl 1 rfl) ?_
          obtain ⟨b_12, h⟩ := gd h
          refine ml_froms (v := (σ1.2.1 5 x1.toNatClampNeg)) S hK hB b_12 rfl dX11_is_71 ?_
          refine lv_iload S.1 S.2.1 dX11_is_72 (lv_at hl 4 rfl) ?_
          refine lv_iadd S.1 S.2.1 dX11_is_74 ?_
          obtain ⟨b_13, h⟩ := gd h
          refine ml_tape (v := (σ1.2.1 1 ((σ1.2.1 5 x1.toNatClampNeg) + x4).toNatClampNeg)) S hK hB b_13 rfl dX11_is_75 ?_
          refine lv_aload_n S.1 S.2.1 dX11_is_76 rfl (lv_at hl 2 rfl) ?_
          refine lv_iload S.1 S.2.1 dX11_is_77 (lv_at hl 4 rfl) ?_
          obtain ⟨r_14, e_14, h⟩ := bnd h
          refine mCallTI S hK mKSc hKS hA (kJ0_charAt_5068e hw e_14) (cwX11_134 S.2.2.2.2 (rm := rmJ0_charAt_5068e) rfl rfl ⟨Nat.le_of_ble_eq_true rfl, Nat.le_of_ble_eq_true rfl⟩) (vk_recv hKS.1 hw hB.2.2) hB rfl hl.1 rfl (lv_room (Nat.le_of_ble_eq_true rfl)) dX11_is_79 ⟨Nat.zero_le _, Nat.zero_le _⟩ (fun H locs hB => ?_)
          refine lv_icmp_ne (tgt := 89) S.1 S.2.1 dX11_is_82 (by decide) (fun c_15 => ?_) (fun c_15 => ?_)
          · replace h := (if_neg c_15).symm.trans h
            refine lv_iconst (v := (0 : Int32)) S.1 S.2.1 dX11_is_89 (by decide) ?_
            refine lv_istore_n (lv' := [(3, .int (0 : Int32)), (0, .ref (ad 0)), (1, .int x1), (2, .ref (adK w)), (4, .int x4)]) S.1 S.2.1 dX11_is_90 rfl hl (by decide) rfl (fun ls hl => ?_)
            refine lv_iinc (v := (x4 + (1 : Int32))) (lv' := [(4, .int (x4 + (1 : Int32))), (3, .int (0 : Int32)), (0, .ref (ad 0)), (1, .int x1), (2, .ref (adK w))]) S.1 S.2.1 dX11_is_91 hl (k := 4) rfl rfl (by decide) rfl (fun ls hl => ?_)
            refine lv_goto (tgt := 49) S.1 S.2.1 dX11_is_94 (by decide) ?_
            exact ih _ _ _ _ _ _ _ h hB (lv_sub hl [2, 3, 4, 1, 0] rfl)
          · replace h := (if_pos c_15).symm.trans h
            refine lv_iconst (v := (1 : Int32)) S.1 S.2.1 dX11_is_85 (by decide) ?_
            refine lv_goto (tgt := 90) S.1 S.2.1 dX11_is_86 (by decide) ?_
            refine lv_istore_n (lv' := [(3, .int (1 : Int32)), (0, .ref (ad 0)), (1, .int x1), (2, .ref (adK w)), (4, .int x4)]) S.1 S.2.1 dX11_is_90 rfl hl (by decide) rfl (fun ls hl => ?_)
            refine lv_iinc (v := (x4 + (1 : Int32))) (lv' := [(4, .int (x4 + (1 : Int32))), (3, .int (1 : Int32)), (0, .ref (ad 0)), (1, .int x1), (2, .ref (adK w))]) S.1 S.2.1 dX11_is_91 hl (k := 4) rfl rfl (by decide) rfl (fun ls hl => ?_)
            refine lv_goto (tgt := 49) S.1 S.2.1 dX11_is_94 (by decide) ?_
            exact ih _ _ _ _ _ _ _ h hB (lv_sub hl [2, 3, 4, 1, 0] rfl)
  have P20 : ∀ (x1 : Int32) (σ1 : MS) (H : Heap) (locs : List Loc) (ls : Array Slot), FX11_is_20 L w x1 σ1 = some (r, σ') → gB D vwCl (va_A (MW cI cJ ad σ) s.heap.size) s.heap (MW cI cJ ad σ1) [] H locs → lv_has ls 5 [(0, .ref (ad 0)), (1, .int x1), (2, .ref (adK w))] → W p l e rmX11_is s m args below meth c H locs 0 0 (MQ below (gQ D vwCl (MW cI cJ ad σ) (MW cI cJ ad σ') (some (.int r)) s.heap.size) args s 0 0 (va_A (MW cI cJ ad σ) s.heap.size)) (F0 m 20 ls []) := by
    intro  x1 σ1 H locs ls h hB hl
    rw [FX11_is_20] at h
    refine lv_aload_n S.1 S.2.1 dX11_is_20 rfl (lv_at hl 0 rfl) ?_
    refine mg_ends S hK hB wf_X11_23 dX11_is_21 ?_
    refine lv_iload_n S.1 S.2.1 dX11_is_24 rfl (lv_at hl 1 rfl) ?_
    obtain ⟨b_3, h⟩ := gd h
    refine ml_ends (v := (σ1.2.1 6 x1.toNatClampNeg)) S hK hB b_3 rfl dX11_is_25 ?_
    refine lv_aload_n S.1 S.2.1 dX11_is_26 rfl (lv_at hl 0 rfl) ?_
    refine mg_froms S hK hB wf_X11_20 dX11_is_27 ?_
    refine lv_iload_n S.1 S.2.1 dX11_is_30 rfl (lv_at hl 1 rfl) ?_
    obtain ⟨b_4, h⟩ := gd h
    refine ml_froms (v := (σ1.2.1 5 x1.toNatClampNeg)) S hK hB b_4 rfl dX11_is_31 ?_
    refine lv_isub S.1 S.2.1 dX11_is_32 ?_
    refine lv_aload_n S.1 S.2.1 dX11_is_33 rfl (lv_at hl 2 rfl) ?_
    obtain ⟨r_5, e_5, h⟩ := bnd h
    refine mCallTI S hK mKSc hKS hA (kJ0_length_8abf5 hw e_5) (cwX11_131 S.2.2.2.2 (rm := rmJ0_length_8abf5) rfl rfl ⟨Nat.le_of_ble_eq_true rfl, Nat.le_of_ble_eq_true rfl⟩) (vk_recv hKS.1 hw hB.2.2) hB rfl hl.1 rfl (lv_room (Nat.le_of_ble_eq_true rfl)) dX11_is_34 ⟨Nat.zero_le _, Nat.zero_le _⟩ (fun H locs hB => ?_)
    refine lv_icmp_ne (tgt := 44) S.1 S.2.1 dX11_is_37 (by decide) (fun c_6 => ?_) (fun c_6 => ?_)
    · replace h := (if_neg c_6).symm.trans h
      refine lv_iconst (v := (0 : Int32)) S.1 S.2.1 dX11_is_44 (by decide) ?_
      refine lv_istore_n (lv' := [(3, .int (0 : Int32)), (0, .ref (ad 0)), (1, .int x1), (2, .ref (adK w))]) S.1 S.2.1 dX11_is_45 rfl hl (by decide) rfl (fun ls hl => ?_)
      refine lv_iconst (v := (0 : Int32)) S.1 S.2.1 dX11_is_46 (by decide) ?_
      refine lv_istore (lv' := [(4, .int (0 : Int32)), (3, .int (0 : Int32)), (0, .ref (ad 0)), (1, .int x1), (2, .ref (adK w))]) S.1 S.2.1 dX11_is_47 hl (by decide) rfl (fun ls hl => ?_)
      exact P49  L _ _ _ _ _ _ _ h hB (lv_sub hl [2, 3, 4, 1, 0] rfl)
    · replace h := (if_pos c_6).symm.trans h
      refine lv_iconst (v := (1 : Int32)) S.1 S.2.1 dX11_is_40 (by decide) ?_
      refine lv_goto (tgt := 45) S.1 S.2.1 dX11_is_41 (by decide) ?_
      refine lv_istore_n (lv' := [(3, .int (1 : Int32)), (0, .ref (ad 0)), (1, .int x1), (2, .ref (adK w))]) S.1 S.2.1 dX11_is_45 rfl hl (by decide) rfl (fun ls hl => ?_)
      refine lv_iconst (v := (0 : Int32)) S.1 S.2.1 dX11_is_46 (by decide) ?_
      refine lv_istore (lv' := [(4, .int (0 : Int32)), (3, .int (1 : Int32)), (0, .ref (ad 0)), (1, .int x1), (2, .ref (adK w))]) S.1 S.2.1 dX11_is_47 hl (by decide) rfl (fun ls hl => ?_)
      exact P49  L _ _ _ _ _ _ _ h hB (lv_sub hl [2, 3, 4, 1, 0] rfl)
  refine lv_aload_n S.1 S.2.1 dX11_is_0 rfl (lv_at hl 0 rfl) ?_
  refine mg_kinds S hK hB wf_X11_17 dX11_is_1 ?_
  refine lv_iload_n S.1 S.2.1 dX11_is_4 rfl (lv_at hl 1 rfl) ?_
  obtain ⟨b_1, h⟩ := gd h
  refine ml_kinds (v := (σ.2.1 4 p0.toNatClampNeg)) S hK hB b_1 rfl dX11_is_5 ?_
  refine lv_iconst (v := (1 : Int32)) S.1 S.2.1 dX11_is_6 (by decide) ?_
  refine lv_icmp_eq (tgt := 20) S.1 S.2.1 dX11_is_7 (by decide) (fun c_2 => ?_) (fun c_2 => ?_)
  · replace h := (if_pos c_2).symm.trans h
    exact P20  _ _ _ _ _ h hB hl
  · replace h := (if_neg c_2).symm.trans h
    refine lv_aload_n S.1 S.2.1 dX11_is_10 rfl (lv_at hl 0 rfl) ?_
    refine mg_kinds S hK hB wf_X11_17 dX11_is_11 ?_
    refine lv_iload_n S.1 S.2.1 dX11_is_14 rfl (lv_at hl 1 rfl) ?_
    obtain ⟨b_16, h⟩ := gd h
    refine ml_kinds (v := (σ.2.1 4 p0.toNatClampNeg)) S hK hB b_16 rfl dX11_is_15 ?_
    refine lv_iconst (v := (3 : Int32)) S.1 S.2.1 dX11_is_16 (by decide) ?_
    refine lv_icmp_ne (tgt := 44) S.1 S.2.1 dX11_is_17 (by decide) (fun c_17 => ?_) (fun c_17 => ?_)
    · replace h := (if_neg c_17).symm.trans h
      refine lv_iconst (v := (0 : Int32)) S.1 S.2.1 dX11_is_44 (by decide) ?_
      refine lv_istore_n (lv' := [(3, .int (0 : Int32)), (0, .ref (ad 0)), (1, .int p0), (2, .ref (adK w))]) S.1 S.2.1 dX11_is_45 rfl hl (by decide) rfl (fun ls hl => ?_)
      refine lv_iconst (v := (0 : Int32)) S.1 S.2.1 dX11_is_46 (by decide) ?_
      refine lv_istore (lv' := [(4, .int (0 : Int32)), (3, .int (0 : Int32)), (0, .ref (ad 0)), (1, .int p0), (2, .ref (adK w))]) S.1 S.2.1 dX11_is_47 hl (by decide) rfl (fun ls hl => ?_)
      exact P49  L _ _ _ _ _ _ _ h hB (lv_sub hl [2, 3, 4, 1, 0] rfl)
    · replace h := (if_pos c_17).symm.trans h
      exact P20  _ _ _ _ _ h hB hl
def FX11_which_5 (L : Nat) (t : Nat)  : Nat → Int32 → Int32 → Int32 → MS → Option (Int32 × MS)
  | 0, _, _, _, _ => none
  | n+1, x1, x3, x4, σ1 =>
    if (sTabLen t) ≤ x4 then
      some (x3, σ1)
    else
      if (x4 < 0 ∨ (sTab t).length ≤ x4.toNatClampNeg) then none else
      b2 (FX11_is L x1 ((sTab t).getD x4.toNatClampNeg 0) σ1) fun r_3 σ_3 =>
      if r_3 = 0 then
        (FX11_which_5 L t n) x1 x3 (x4 + (1 : Int32)) σ_3
      else
        (FX11_which_5 L t n) x1 x4 (x4 + (1 : Int32)) σ_3
def FX11_which (L : Nat) (p0 : Int32) (t : Nat) (σ : MS) : Option (Int32 × MS) :=
  FX11_which_5 L t L p0 (-1 : Int32) (0 : Int32) σ
abbrev rmX11_which : Room := { frames := 5, cells := 0, slots := 0, locals := 109 }
set_option maxRecDepth 100000 in
set_option maxHeartbeats 4000000 in
theorem kX11_which {l : Launch} {D : va_G} {cI cJ : ClassId} {ad : Nat → Nat} {adK adV tK : Nat → Nat} {xt : Nat} {L : Nat} {p0 : Int32} {t : Nat} {σ σ' : MS} {r : Int32} (h : FX11_which L p0 t σ = some (r, σ')) : gMet l yX11_which qX11_which rmX11_which 0 0 D vwCl [(cI, .int), (cJ, .long)] (mKX adK adV tK t xt) [.ref (ad 0), .int p0, .ref xt] (MW cI cJ ad σ) (MW cI cJ ad σ') (some (.int r)) := by
  refine gMet.of (cc := cX11_which) (maxL := 5) (ret := (some .int)) (by decide) rfl (Nat.le_of_ble_eq_true rfl) ?_
  intro p e s m args below meth c S hr hlk hnm hK hKS hA hB ls hl
  have hl : lv_has ls 5 [(0, .ref (ad 0)), (1, .int p0), (2, .ref xt)] := hl
  replace S : CallFix p m c cX11_which 5 s args (_ :: wsL_law) RX11 := S
  rw [FX11_which] at h
  have P5 : ∀  (n : Nat), ∀ (x1 : Int32) (x3 : Int32) (x4 : Int32) (σ1 : MS) (H : Heap) (locs : List Loc) (ls : Array Slot), FX11_which_5 L t n x1 x3 x4 σ1 = some (r, σ') → gB D vwCl (va_A (MW cI cJ ad σ) s.heap.size) s.heap (MW cI cJ ad σ1) [] H locs → lv_has ls 5 [(0, .ref (ad 0)), (1, .int x1), (2, .ref xt), (3, .int x3), (4, .int x4)] → W p l e rmX11_which s m args below meth c H locs 0 0 (MQ below (gQ D vwCl (MW cI cJ ad σ) (MW cI cJ ad σ') (some (.int r)) s.heap.size) args s 0 0 (va_A (MW cI cJ ad σ) s.heap.size)) (F0 m 5 ls []) := by
    intro n
    induction n with
    | zero => intro x1 x3 x4 σ1 H locs ls h; simp only [FX11_which_5] at h; cases h
    | succ n ih =>
      intro x1 x3 x4 σ1 H locs ls h hB hl
      rw [FX11_which_5] at h
      refine lv_iload S.1 S.2.1 dX11_which_5 (lv_at hl 4 rfl) ?_
      refine lv_aload_n S.1 S.2.1 dX11_which_7 rfl (lv_at hl 2 rfl) ?_
      refine va_tlen (v := sTabLen t) S.1 S.2.1 hKS.2 hB.2.2 rfl dX11_which_8 ?_
      refine lv_icmp_ge (tgt := 33) S.1 S.2.1 dX11_which_9 (by decide) (fun c_1 => ?_) (fun c_1 => ?_)
      · replace h := (if_pos c_1).symm.trans h
        refine lv_iload_n S.1 S.2.1 dX11_which_33 rfl (lv_at hl 3 rfl) ?_
        cases h
        exact gRetI S.1 S.2.1 hr hlk hB dX11_which_34
      · replace h := (if_neg c_1).symm.trans h
        refine lv_aload_n S.1 S.2.1 dX11_which_12 rfl (lv_at hl 0 rfl) ?_
        refine lv_iload_n S.1 S.2.1 dX11_which_13 rfl (lv_at hl 1 rfl) ?_
        refine lv_aload_n S.1 S.2.1 dX11_which_14 rfl (lv_at hl 2 rfl) ?_
        refine lv_iload S.1 S.2.1 dX11_which_15 (lv_at hl 4 rfl) ?_
        obtain ⟨b_2, h⟩ := gd h
        refine vb_tq (v := .ref (adK ((sTab t).getD x4.toNatClampNeg 0))) S.1 S.2.1 hKS.2 hB.2.2 b_2 rfl dX11_which_17 ?_
        obtain ⟨r_3, σ_3, e_3, h⟩ := b2s h
        refine mCallI S hK mKXc hKS hA (gMet.weak (kX11_is e_3) (fun _ _ q => q.1)) (cwX11_138 S.2.2.2.2 (rm := rmX11_is) rfl rfl ⟨Nat.le_of_ble_eq_true rfl, Nat.le_of_ble_eq_true rfl⟩) hB rfl hl.1 rfl (lv_room (Nat.le_of_ble_eq_true rfl)) dX11_which_18 ⟨Nat.zero_le _, Nat.zero_le _⟩ (fun H locs hB => ?_)
        refine lv_if_eq (tgt := 27) S.1 S.2.1 dX11_which_21 (by decide) (fun c_4 => ?_) (fun c_4 => ?_)
        · replace h := (if_pos c_4).symm.trans h
          refine lv_iinc (v := (x4 + (1 : Int32))) (lv' := [(4, .int (x4 + (1 : Int32))), (0, .ref (ad 0)), (1, .int x1), (2, .ref xt), (3, .int x3)]) S.1 S.2.1 dX11_which_27 hl (k := 4) rfl rfl (by decide) rfl (fun ls hl => ?_)
          refine lv_goto (tgt := 5) S.1 S.2.1 dX11_which_30 (by decide) ?_
          exact ih _ _ _ _ _ _ _ h hB (lv_sub hl [1, 2, 3, 4, 0] rfl)
        · replace h := (if_neg c_4).symm.trans h
          refine lv_iload S.1 S.2.1 dX11_which_24 (lv_at hl 4 rfl) ?_
          refine lv_istore_n (lv' := [(3, .int x4), (0, .ref (ad 0)), (1, .int x1), (2, .ref xt), (4, .int x4)]) S.1 S.2.1 dX11_which_26 rfl hl (by decide) rfl (fun ls hl => ?_)
          refine lv_iinc (v := (x4 + (1 : Int32))) (lv' := [(4, .int (x4 + (1 : Int32))), (3, .int x4), (0, .ref (ad 0)), (1, .int x1), (2, .ref xt)]) S.1 S.2.1 dX11_which_27 hl (k := 4) rfl rfl (by decide) rfl (fun ls hl => ?_)
          refine lv_goto (tgt := 5) S.1 S.2.1 dX11_which_30 (by decide) ?_
          exact ih _ _ _ _ _ _ _ h hB (lv_sub hl [2, 3, 4, 1, 0] rfl)
  refine lv_iconst (v := (-1 : Int32)) S.1 S.2.1 dX11_which_0 (by decide) ?_
  refine lv_istore_n (lv' := [(3, .int (-1 : Int32)), (0, .ref (ad 0)), (1, .int p0), (2, .ref xt)]) S.1 S.2.1 dX11_which_1 rfl hl (by decide) rfl (fun ls hl => ?_)
  refine lv_iconst (v := (0 : Int32)) S.1 S.2.1 dX11_which_2 (by decide) ?_
  refine lv_istore (lv' := [(4, .int (0 : Int32)), (3, .int (-1 : Int32)), (0, .ref (ad 0)), (1, .int p0), (2, .ref xt)]) S.1 S.2.1 dX11_which_3 hl (by decide) rfl (fun ls hl => ?_)
  exact P5  L _ _ _ _ _ _ _ h hB (lv_sub hl [2, 3, 4, 1, 0] rfl)
def FX11_isName (L : Nat) (p0 : Int32) (σ : MS) : Option (Int32 × MS) :=
  if (p0 < 0 ∨ 1801 ≤ p0.toNatClampNeg) then none else
  if (σ.2.1 4 p0.toNatClampNeg) = (1 : Int32) then
    b2 (FX11_which L p0 0 σ) fun r_3 σ_3 =>
    if r_3 = (-1 : Int32) then
      some ((1 : Int32), σ_3)
    else
      some ((0 : Int32), σ_3)
  else
    some ((0 : Int32), σ)
abbrev rmX11_isName : Room := { frames := 6, cells := 0, slots := 0, locals := 133 }
set_option maxRecDepth 100000 in
set_option maxHeartbeats 4000000 in
theorem kX11_isName {l : Launch} {D : va_G} {cI cJ : ClassId} {ad : Nat → Nat} {adK adV tK : Nat → Nat} {L : Nat} {p0 : Int32} {σ σ' : MS} {r : Int32} (h : FX11_isName L p0 σ = some (r, σ')) : gMet l yX11_isName qX11_isName rmX11_isName 0 0 D vwCl [(cI, .int), (cJ, .long)] (mKS adK adV tK) [.ref (ad 0), .int p0] (MW cI cJ ad σ) (MW cI cJ ad σ') (some (.int r)) := by
  refine gMet.of (cc := cX11_isName) (maxL := 2) (ret := (some .boolean)) (by decide) rfl (Nat.le_of_ble_eq_true rfl) ?_
  intro p e s m args below meth c S hr hlk hnm hK hKS hA hB ls hl
  have hl : lv_has ls 2 [(0, .ref (ad 0)), (1, .int p0)] := hl
  replace S : CallFix p m c cX11_isName 2 s args (_ :: wsL_law) RX11 := S
  rw [FX11_isName] at h
  refine lv_aload_n S.1 S.2.1 dX11_isName_0 rfl (lv_at hl 0 rfl) ?_
  refine mg_kinds S hK hB wf_X11_17 dX11_isName_1 ?_
  refine lv_iload_n S.1 S.2.1 dX11_isName_4 rfl (lv_at hl 1 rfl) ?_
  obtain ⟨b_1, h⟩ := gd h
  refine ml_kinds (v := (σ.2.1 4 p0.toNatClampNeg)) S hK hB b_1 rfl dX11_isName_5 ?_
  refine lv_iconst (v := (1 : Int32)) S.1 S.2.1 dX11_isName_6 (by decide) ?_
  refine lv_icmp_ne (tgt := 26) S.1 S.2.1 dX11_isName_7 (by decide) (fun c_2 => ?_) (fun c_2 => ?_)
  · replace h := (if_neg c_2).symm.trans h
    refine lv_iconst (v := (0 : Int32)) S.1 S.2.1 dX11_isName_26 (by decide) ?_
    cases h
    exact gRetZ S.1 S.2.1 hr hlk hB rfl dX11_isName_27
  · replace h := (if_pos c_2).symm.trans h
    refine lv_aload_n S.1 S.2.1 dX11_isName_10 rfl (lv_at hl 0 rfl) ?_
    refine lv_iload_n S.1 S.2.1 dX11_isName_11 rfl (lv_at hl 1 rfl) ?_
    refine va_gets S.1 S.2.1 (hKS.2.2.2.2 0 (by decide)).1 hB.2.2 S.2.2.2.1 (S.2.2.2.2 _ (List.mem_cons_of_mem _ wf_X11_142)) (fun _ h => h) dX11_isName_12 ?_
    obtain ⟨r_3, σ_3, e_3, h⟩ := b2s h
    refine mCallI S hK mKSc hKS hA (gMet.weak (kX11_which (xt := (tK 0)) e_3) (fun _ _ q => ⟨q, (q.2.2.2.2 0 (by decide)).2⟩)) (cwX11_146 S.2.2.2.2 (rm := rmX11_which) rfl rfl ⟨Nat.le_of_ble_eq_true rfl, Nat.le_of_ble_eq_true rfl⟩) hB rfl hl.1 rfl (lv_room (Nat.le_of_ble_eq_true rfl)) dX11_isName_15 ⟨Nat.zero_le _, Nat.zero_le _⟩ (fun H locs hB => ?_)
    refine lv_iconst (v := (-1 : Int32)) S.1 S.2.1 dX11_isName_18 (by decide) ?_
    refine lv_icmp_ne (tgt := 26) S.1 S.2.1 dX11_isName_19 (by decide) (fun c_4 => ?_) (fun c_4 => ?_)
    · replace h := (if_neg c_4).symm.trans h
      refine lv_iconst (v := (0 : Int32)) S.1 S.2.1 dX11_isName_26 (by decide) ?_
      cases h
      exact gRetZ S.1 S.2.1 hr hlk hB rfl dX11_isName_27
    · replace h := (if_pos c_4).symm.trans h
      refine lv_iconst (v := (1 : Int32)) S.1 S.2.1 dX11_isName_22 (by decide) ?_
      refine lv_goto (tgt := 27) S.1 S.2.1 dX11_isName_23 (by decide) ?_
      cases h
      exact gRetZ S.1 S.2.1 hr hlk hB rfl dX11_isName_27
def FX11_sees (L : Nat) (w : Nat) (σ : MS) : Option (Int32 × MS) :=
  b2 (FX11_is L (σ.1 7) w σ) fun r_1 σ_1 =>
  if (r_1 ≠ 0 ∧ r_1 ≠ 1) then none else
  some (r_1, σ_1)
abbrev rmX11_sees : Room := { frames := 5, cells := 0, slots := 0, locals := 109 }
set_option maxRecDepth 100000 in
set_option maxHeartbeats 4000000 in
theorem kX11_sees {l : Launch} {D : va_G} {cI cJ : ClassId} {ad : Nat → Nat} {adK adV tK : Nat → Nat} {L : Nat} {w : Nat} {σ σ' : MS} {r : Int32} (h : FX11_sees L w σ = some (r, σ')) : gMet l yX11_sees qX11_sees rmX11_sees 0 0 D vwCl [(cI, .int), (cJ, .long)] (mKS adK adV tK) [.ref (ad 0), .ref (adK w)] (MW cI cJ ad σ) (MW cI cJ ad σ') (some (.int r)) := by
  refine gMet.of (cc := cX11_sees) (maxL := 2) (ret := (some .boolean)) (by decide) rfl (Nat.le_of_ble_eq_true rfl) ?_
  intro p e s m args below meth c S hr hlk hnm hK hKS hA hB ls hl
  have hl : lv_has ls 2 [(0, .ref (ad 0)), (1, .ref (adK w))] := hl
  replace S : CallFix p m c cX11_sees 2 s args (_ :: wsL_law) RX11 := S
  rw [FX11_sees] at h
  refine lv_aload_n S.1 S.2.1 dX11_sees_0 rfl (lv_at hl 0 rfl) ?_
  refine lv_aload_n S.1 S.2.1 dX11_sees_1 rfl (lv_at hl 0 rfl) ?_
  refine mg_at S hK hB wf_X11_152 rfl dX11_sees_2 ?_
  refine lv_aload_n S.1 S.2.1 dX11_sees_5 rfl (lv_at hl 1 rfl) ?_
  obtain ⟨r_1, σ_1, e_1, h⟩ := b2s h
  refine mCallI S hK mKSc hKS hA (kX11_is e_1) (cwX11_138 S.2.2.2.2 (rm := rmX11_is) rfl rfl ⟨Nat.le_of_ble_eq_true rfl, Nat.le_of_ble_eq_true rfl⟩) hB rfl hl.1 rfl (lv_room (Nat.le_of_ble_eq_true rfl)) dX11_sees_6 ⟨Nat.zero_le _, Nat.zero_le _⟩ (fun H locs hB => ?_)
  obtain ⟨z_2, h⟩ := gd h
  cases h
  exact gRetZ S.1 S.2.1 hr hlk hB (nzB z_2) dX11_sees_9
def FX11_takes (L : Nat) (w : Nat) (σ : MS) : Option (Int32 × MS) :=
  b2 (FX11_sees L w σ) fun r_1 σ_1 =>
  if r_1 = 0 then
    some ((0 : Int32), σ_1)
  else
    b2 (FX11_goes σ_1) fun r_3 σ_3 =>
    if r_3 = 0 then
      some ((0 : Int32), σ_3)
    else
      some ((1 : Int32), σ_3)
abbrev rmX11_takes : Room := { frames := 6, cells := 0, slots := 0, locals := 130 }
set_option maxRecDepth 100000 in
set_option maxHeartbeats 4000000 in
theorem kX11_takes {l : Launch} {D : va_G} {cI cJ : ClassId} {ad : Nat → Nat} {adK adV tK : Nat → Nat} {L : Nat} {w : Nat} {σ σ' : MS} {r : Int32} (h : FX11_takes L w σ = some (r, σ')) : gMet l yX11_takes qX11_takes rmX11_takes 0 0 D vwCl [(cI, .int), (cJ, .long)] (mKS adK adV tK) [.ref (ad 0), .ref (adK w)] (MW cI cJ ad σ) (MW cI cJ ad σ') (some (.int r)) := by
  refine gMet.of (cc := cX11_takes) (maxL := 2) (ret := (some .boolean)) (by decide) rfl (Nat.le_of_ble_eq_true rfl) ?_
  intro p e s m args below meth c S hr hlk hnm hK hKS hA hB ls hl
  have hl : lv_has ls 2 [(0, .ref (ad 0)), (1, .ref (adK w))] := hl
  replace S : CallFix p m c cX11_takes 2 s args (_ :: wsL_law) RX11 := S
  rw [FX11_takes] at h
  refine lv_aload_n S.1 S.2.1 dX11_takes_0 rfl (lv_at hl 0 rfl) ?_
  refine lv_aload_n S.1 S.2.1 dX11_takes_1 rfl (lv_at hl 1 rfl) ?_
  obtain ⟨r_1, σ_1, e_1, h⟩ := b2s h
  refine mCallI S hK mKSc hKS hA (kX11_sees e_1) (cwX11_155 S.2.2.2.2 (rm := rmX11_sees) rfl rfl ⟨Nat.le_of_ble_eq_true rfl, Nat.le_of_ble_eq_true rfl⟩) hB rfl hl.1 rfl (lv_room (Nat.le_of_ble_eq_true rfl)) dX11_takes_2 ⟨Nat.zero_le _, Nat.zero_le _⟩ (fun H locs hB => ?_)
  refine lv_if_eq (tgt := 19) S.1 S.2.1 dX11_takes_5 (by decide) (fun c_2 => ?_) (fun c_2 => ?_)
  · replace h := (if_pos c_2).symm.trans h
    refine lv_iconst (v := (0 : Int32)) S.1 S.2.1 dX11_takes_19 (by decide) ?_
    cases h
    exact gRetZ S.1 S.2.1 hr hlk hB rfl dX11_takes_20
  · replace h := (if_neg c_2).symm.trans h
    refine lv_aload_n S.1 S.2.1 dX11_takes_8 rfl (lv_at hl 0 rfl) ?_
    obtain ⟨r_3, σ_3, e_3, h⟩ := b2s h
    refine mCallI S hK mKSc hKS hA (kX11_goes mKSc e_3) (cwX11_159 S.2.2.2.2 (rm := rmX11_goes) rfl rfl ⟨Nat.le_of_ble_eq_true rfl, Nat.le_of_ble_eq_true rfl⟩) hB rfl hl.1 rfl (lv_room (Nat.le_of_ble_eq_true rfl)) dX11_takes_9 ⟨Nat.zero_le _, Nat.zero_le _⟩ (fun H locs hB => ?_)
    refine lv_if_eq (tgt := 19) S.1 S.2.1 dX11_takes_12 (by decide) (fun c_4 => ?_) (fun c_4 => ?_)
    · replace h := (if_pos c_4).symm.trans h
      refine lv_iconst (v := (0 : Int32)) S.1 S.2.1 dX11_takes_19 (by decide) ?_
      cases h
      exact gRetZ S.1 S.2.1 hr hlk hB rfl dX11_takes_20
    · replace h := (if_neg c_4).symm.trans h
      refine lv_iconst (v := (1 : Int32)) S.1 S.2.1 dX11_takes_15 (by decide) ?_
      refine lv_goto (tgt := 20) S.1 S.2.1 dX11_takes_16 (by decide) ?_
      cases h
      exact gRetZ S.1 S.2.1 hr hlk hB rfl dX11_takes_20
def FX11_takesName (L : Nat)  (σ : MS) : Option (Int32 × MS) :=
  b2 (FX11_isName L (σ.1 7) σ) fun r_1 σ_1 =>
  if r_1 = 0 then
    some ((0 : Int32), σ_1)
  else
    b2 (FX11_goes σ_1) fun r_3 σ_3 =>
    if r_3 = 0 then
      some ((0 : Int32), σ_3)
    else
      some ((1 : Int32), σ_3)
abbrev rmX11_takesName : Room := { frames := 7, cells := 0, slots := 0, locals := 154 }
set_option maxRecDepth 100000 in
set_option maxHeartbeats 4000000 in
theorem kX11_takesName {l : Launch} {D : va_G} {cI cJ : ClassId} {ad : Nat → Nat} {adK adV tK : Nat → Nat} {L : Nat}  {σ σ' : MS} {r : Int32} (h : FX11_takesName L  σ = some (r, σ')) : gMet l yX11_takesName qX11_takesName rmX11_takesName 0 0 D vwCl [(cI, .int), (cJ, .long)] (mKS adK adV tK) [.ref (ad 0)] (MW cI cJ ad σ) (MW cI cJ ad σ') (some (.int r)) := by
  refine gMet.of (cc := cX11_takesName) (maxL := 1) (ret := (some .boolean)) (by decide) rfl (Nat.le_of_ble_eq_true rfl) ?_
  intro p e s m args below meth c S hr hlk hnm hK hKS hA hB ls hl
  have hl : lv_has ls 1 [(0, .ref (ad 0))] := hl
  replace S : CallFix p m c cX11_takesName 1 s args (_ :: wsL_law) RX11 := S
  rw [FX11_takesName] at h
  refine lv_aload_n S.1 S.2.1 dX11_takesName_0 rfl (lv_at hl 0 rfl) ?_
  refine lv_aload_n S.1 S.2.1 dX11_takesName_1 rfl (lv_at hl 0 rfl) ?_
  refine mg_at S hK hB wf_X11_152 rfl dX11_takesName_2 ?_
  obtain ⟨r_1, σ_1, e_1, h⟩ := b2s h
  refine mCallI S hK mKSc hKS hA (kX11_isName e_1) (cwX11_163 S.2.2.2.2 (rm := rmX11_isName) rfl rfl ⟨Nat.le_of_ble_eq_true rfl, Nat.le_of_ble_eq_true rfl⟩) hB rfl hl.1 rfl (lv_room (Nat.le_of_ble_eq_true rfl)) dX11_takesName_5 ⟨Nat.zero_le _, Nat.zero_le _⟩ (fun H locs hB => ?_)
  refine lv_if_eq (tgt := 22) S.1 S.2.1 dX11_takesName_8 (by decide) (fun c_2 => ?_) (fun c_2 => ?_)
  · replace h := (if_pos c_2).symm.trans h
    refine lv_iconst (v := (0 : Int32)) S.1 S.2.1 dX11_takesName_22 (by decide) ?_
    cases h
    exact gRetZ S.1 S.2.1 hr hlk hB rfl dX11_takesName_23
  · replace h := (if_neg c_2).symm.trans h
    refine lv_aload_n S.1 S.2.1 dX11_takesName_11 rfl (lv_at hl 0 rfl) ?_
    obtain ⟨r_3, σ_3, e_3, h⟩ := b2s h
    refine mCallI S hK mKSc hKS hA (kX11_goes mKSc e_3) (cwX11_159 S.2.2.2.2 (rm := rmX11_goes) rfl rfl ⟨Nat.le_of_ble_eq_true rfl, Nat.le_of_ble_eq_true rfl⟩) hB rfl hl.1 rfl (lv_room (Nat.le_of_ble_eq_true rfl)) dX11_takesName_12 ⟨Nat.zero_le _, Nat.zero_le _⟩ (fun H locs hB => ?_)
    refine lv_if_eq (tgt := 22) S.1 S.2.1 dX11_takesName_15 (by decide) (fun c_4 => ?_) (fun c_4 => ?_)
    · replace h := (if_pos c_4).symm.trans h
      refine lv_iconst (v := (0 : Int32)) S.1 S.2.1 dX11_takesName_22 (by decide) ?_
      cases h
      exact gRetZ S.1 S.2.1 hr hlk hB rfl dX11_takesName_23
    · replace h := (if_neg c_4).symm.trans h
      refine lv_iconst (v := (1 : Int32)) S.1 S.2.1 dX11_takesName_18 (by decide) ?_
      refine lv_goto (tgt := 23) S.1 S.2.1 dX11_takesName_19 (by decide) ?_
      cases h
      exact gRetZ S.1 S.2.1 hr hlk hB rfl dX11_takesName_23
def FX11_symbolAt_79 (L : Nat)  (x2 : Int32) (y0 : Int32) (σ1 : MS) : Option (Int32 × MS) :=
    if y0 = 0 then
      if x2 ≤ 0 then
        some ((0 : Int32), σ1)
      else
        (FJ0_indexOf_0f7a4 L 0 x2).bind fun r_9 =>
        if r_9 < 0 then
          some ((0 : Int32), σ1)
        else
          some ((1 : Int32), σ1)
    else
      some ((2 : Int32), σ1)
def FX11_symbolAt_78 (L : Nat)  (x2 : Int32) (σ1 : MS) : Option (Int32 × MS) :=
    FX11_symbolAt_79 L x2 (0 : Int32) σ1
def FX11_symbolAt_74 (L : Nat)  (x2 : Int32) (σ1 : MS) : Option (Int32 × MS) :=
    FX11_symbolAt_79 L x2 (1 : Int32) σ1
def FX11_symbolAt_62 (L : Nat)  (x2 : Int32) (x3 : Int32) (σ1 : MS) : Option (Int32 × MS) :=
    if x2 = (62 : Int32) then
      if x3 = (61 : Int32) then
        FX11_symbolAt_74 L x2 σ1
      else
        FX11_symbolAt_78 L x2 σ1
    else
      FX11_symbolAt_78 L x2 σ1
def FX11_symbolAt_44 (L : Nat)  (x2 : Int32) (x3 : Int32) (σ1 : MS) : Option (Int32 × MS) :=
    if x2 = (60 : Int32) then
      if x3 = (61 : Int32) then
        FX11_symbolAt_74 L x2 σ1
      else
        if x3 = (62 : Int32) then
          FX11_symbolAt_74 L x2 σ1
        else
          FX11_symbolAt_62 L x2 x3 σ1
    else
      FX11_symbolAt_62 L x2 x3 σ1
def FX11_symbolAt (L : Nat) (p0 : Int32) (σ : MS) : Option (Int32 × MS) :=
  b2 (FX11_byteAt p0 σ) fun r_1 σ_1 =>
  b2 (FX11_byteAt (p0 + (1 : Int32)) σ_1) fun r_2 σ_2 =>
  if r_1 = (46 : Int32) then
    if r_2 = (46 : Int32) then
      some ((2 : Int32), σ_2)
    else
      some ((0 : Int32), σ_2)
  else
    if r_1 = (58 : Int32) then
      if r_2 = (61 : Int32) then
        FX11_symbolAt_74 L r_1 σ_2
      else
        FX11_symbolAt_44 L r_1 r_2 σ_2
    else
      FX11_symbolAt_44 L r_1 r_2 σ_2
abbrev rmX11_symbolAt : Room := { frames := 4, cells := 0, slots := 0, locals := 91 }
set_option maxRecDepth 100000 in
set_option maxHeartbeats 4000000 in
theorem kX11_symbolAt {l : Launch} {D : va_G} {cI cJ : ClassId} {ad : Nat → Nat} {adK adV tK : Nat → Nat} {L : Nat} {p0 : Int32} {σ σ' : MS} {r : Int32} (h : FX11_symbolAt L p0 σ = some (r, σ')) : gMet l yX11_symbolAt qX11_symbolAt rmX11_symbolAt 0 0 D vwCl [(cI, .int), (cJ, .long)] (mKS adK adV tK) [.ref (ad 0), .int p0] (MW cI cJ ad σ) (MW cI cJ ad σ') (some (.int r)) := by
  refine gMet.of (cc := cX11_symbolAt) (maxL := 5) (ret := (some .int)) (by decide) rfl (Nat.le_of_ble_eq_true rfl) ?_
  intro p e s m args below meth c S hr hlk hnm hK hKS hA hB ls hl
  have hl : lv_has ls 5 [(0, .ref (ad 0)), (1, .int p0)] := hl
  replace S : CallFix p m c cX11_symbolAt 5 s args (_ :: wsL_law) RX11 := S
  rw [FX11_symbolAt] at h
  have P79 : ∀ (x2 : Int32) (y0 : Int32) (σ1 : MS) (H : Heap) (locs : List Loc) (ls : Array Slot), FX11_symbolAt_79 L x2 y0 σ1 = some (r, σ') → gB D vwCl (va_A (MW cI cJ ad σ) s.heap.size) s.heap (MW cI cJ ad σ1) [] H locs → lv_has ls 5 [(2, .int x2)] → W p l e rmX11_symbolAt s m args below meth c H locs 0 0 (MQ below (gQ D vwCl (MW cI cJ ad σ) (MW cI cJ ad σ') (some (.int r)) s.heap.size) args s 0 0 (va_A (MW cI cJ ad σ) s.heap.size)) (F0 m 79 ls [.int y0]) := by
    intro  x2 y0 σ1 H locs ls h hB hl
    rw [FX11_symbolAt_79] at h
    refine lv_istore (lv' := [(4, .int y0), (2, .int x2)]) S.1 S.2.1 dX11_symbolAt_79 hl (by decide) rfl (fun ls hl => ?_)
    refine lv_iload S.1 S.2.1 dX11_symbolAt_81 (lv_at hl 0 rfl) ?_
    refine lv_if_eq (tgt := 88) S.1 S.2.1 dX11_symbolAt_83 (by decide) (fun c_7 => ?_) (fun c_7 => ?_)
    · replace h := (if_pos c_7).symm.trans h
      refine lv_iload_n S.1 S.2.1 dX11_symbolAt_88 rfl (lv_at hl 1 rfl) ?_
      refine lv_if_le (tgt := 105) S.1 S.2.1 dX11_symbolAt_89 (by decide) (fun c_8 => ?_) (fun c_8 => ?_)
      · replace h := (if_pos c_8).symm.trans h
        refine lv_iconst (v := (0 : Int32)) S.1 S.2.1 dX11_symbolAt_105 (by decide) ?_
        cases h
        exact gRetI S.1 S.2.1 hr hlk hB dX11_symbolAt_106
      · replace h := (if_neg c_8).symm.trans h
        refine va_ldcS S.1 S.2.1 S.2.2.2.1 (hKS.2.1 (RX11, 108, "(){}[];:=+-*/%<>", 0) (List.mem_of_getElem? (i := 0) rfl)) dX11_symbolAt_92 ?_
        refine lv_iload_n S.1 S.2.1 dX11_symbolAt_94 rfl (lv_at hl 1 rfl) ?_
        obtain ⟨r_9, e_9, h⟩ := bnd h
        refine mCallTI S hK mKSc hKS hA (kJ0_indexOf_0f7a4 (by decide) e_9) (cwX11_110 S.2.2.2.2 (rm := rmJ0_indexOf_0f7a4) rfl rfl ⟨Nat.le_of_ble_eq_true rfl, Nat.le_of_ble_eq_true rfl⟩) (vk_recv hKS.1 (by decide) hB.2.2) hB rfl hl.1 rfl (lv_room (Nat.le_of_ble_eq_true rfl)) dX11_symbolAt_95 ⟨Nat.zero_le _, Nat.zero_le _⟩ (fun H locs hB => ?_)
        refine lv_if_lt (tgt := 105) S.1 S.2.1 dX11_symbolAt_98 (by decide) (fun c_10 => ?_) (fun c_10 => ?_)
        · replace h := (if_pos c_10).symm.trans h
          refine lv_iconst (v := (0 : Int32)) S.1 S.2.1 dX11_symbolAt_105 (by decide) ?_
          cases h
          exact gRetI S.1 S.2.1 hr hlk hB dX11_symbolAt_106
        · replace h := (if_neg c_10).symm.trans h
          refine lv_iconst (v := (1 : Int32)) S.1 S.2.1 dX11_symbolAt_101 (by decide) ?_
          refine lv_goto (tgt := 106) S.1 S.2.1 dX11_symbolAt_102 (by decide) ?_
          cases h
          exact gRetI S.1 S.2.1 hr hlk hB dX11_symbolAt_106
    · replace h := (if_neg c_7).symm.trans h
      refine lv_iconst (v := (2 : Int32)) S.1 S.2.1 dX11_symbolAt_86 (by decide) ?_
      cases h
      exact gRetI S.1 S.2.1 hr hlk hB dX11_symbolAt_87
  have P78 : ∀ (x2 : Int32) (σ1 : MS) (H : Heap) (locs : List Loc) (ls : Array Slot), FX11_symbolAt_78 L x2 σ1 = some (r, σ') → gB D vwCl (va_A (MW cI cJ ad σ) s.heap.size) s.heap (MW cI cJ ad σ1) [] H locs → lv_has ls 5 [(2, .int x2)] → W p l e rmX11_symbolAt s m args below meth c H locs 0 0 (MQ below (gQ D vwCl (MW cI cJ ad σ) (MW cI cJ ad σ') (some (.int r)) s.heap.size) args s 0 0 (va_A (MW cI cJ ad σ) s.heap.size)) (F0 m 78 ls []) := by
    intro  x2 σ1 H locs ls h hB hl
    rw [FX11_symbolAt_78] at h
    refine lv_iconst (v := (0 : Int32)) S.1 S.2.1 dX11_symbolAt_78 (by decide) ?_
    exact P79  _ _ _ _ _ _ h hB hl
  have P74 : ∀ (x2 : Int32) (σ1 : MS) (H : Heap) (locs : List Loc) (ls : Array Slot), FX11_symbolAt_74 L x2 σ1 = some (r, σ') → gB D vwCl (va_A (MW cI cJ ad σ) s.heap.size) s.heap (MW cI cJ ad σ1) [] H locs → lv_has ls 5 [(2, .int x2)] → W p l e rmX11_symbolAt s m args below meth c H locs 0 0 (MQ below (gQ D vwCl (MW cI cJ ad σ) (MW cI cJ ad σ') (some (.int r)) s.heap.size) args s 0 0 (va_A (MW cI cJ ad σ) s.heap.size)) (F0 m 74 ls []) := by
    intro  x2 σ1 H locs ls h hB hl
    rw [FX11_symbolAt_74] at h
    refine lv_iconst (v := (1 : Int32)) S.1 S.2.1 dX11_symbolAt_74 (by decide) ?_
    refine lv_goto (tgt := 79) S.1 S.2.1 dX11_symbolAt_75 (by decide) ?_
    exact P79  _ _ _ _ _ _ h hB hl
  have P62 : ∀ (x2 : Int32) (x3 : Int32) (σ1 : MS) (H : Heap) (locs : List Loc) (ls : Array Slot), FX11_symbolAt_62 L x2 x3 σ1 = some (r, σ') → gB D vwCl (va_A (MW cI cJ ad σ) s.heap.size) s.heap (MW cI cJ ad σ1) [] H locs → lv_has ls 5 [(2, .int x2), (3, .int x3)] → W p l e rmX11_symbolAt s m args below meth c H locs 0 0 (MQ below (gQ D vwCl (MW cI cJ ad σ) (MW cI cJ ad σ') (some (.int r)) s.heap.size) args s 0 0 (va_A (MW cI cJ ad σ) s.heap.size)) (F0 m 62 ls []) := by
    intro  x2 x3 σ1 H locs ls h hB hl
    rw [FX11_symbolAt_62] at h
    refine lv_iload_n S.1 S.2.1 dX11_symbolAt_62 rfl (lv_at hl 0 rfl) ?_
    refine lv_bipush (v := (62 : Int32)) S.1 S.2.1 dX11_symbolAt_63 (by decide) ?_
    refine lv_icmp_ne (tgt := 78) S.1 S.2.1 dX11_symbolAt_65 (by decide) (fun c_6 => ?_) (fun c_6 => ?_)
    · replace h := (if_neg c_6).symm.trans h
      exact P78  _ _ _ _ _ h hB (lv_sub hl [0] rfl)
    · replace h := (if_pos c_6).symm.trans h
      refine lv_iload_n S.1 S.2.1 dX11_symbolAt_68 rfl (lv_at hl 1 rfl) ?_
      refine lv_bipush (v := (61 : Int32)) S.1 S.2.1 dX11_symbolAt_69 (by decide) ?_
      refine lv_icmp_ne (tgt := 78) S.1 S.2.1 dX11_symbolAt_71 (by decide) (fun c_11 => ?_) (fun c_11 => ?_)
      · replace h := (if_neg c_11).symm.trans h
        exact P78  _ _ _ _ _ h hB (lv_sub hl [0] rfl)
      · replace h := (if_pos c_11).symm.trans h
        exact P74  _ _ _ _ _ h hB (lv_sub hl [0] rfl)
  have P44 : ∀ (x2 : Int32) (x3 : Int32) (σ1 : MS) (H : Heap) (locs : List Loc) (ls : Array Slot), FX11_symbolAt_44 L x2 x3 σ1 = some (r, σ') → gB D vwCl (va_A (MW cI cJ ad σ) s.heap.size) s.heap (MW cI cJ ad σ1) [] H locs → lv_has ls 5 [(2, .int x2), (3, .int x3)] → W p l e rmX11_symbolAt s m args below meth c H locs 0 0 (MQ below (gQ D vwCl (MW cI cJ ad σ) (MW cI cJ ad σ') (some (.int r)) s.heap.size) args s 0 0 (va_A (MW cI cJ ad σ) s.heap.size)) (F0 m 44 ls []) := by
    intro  x2 x3 σ1 H locs ls h hB hl
    rw [FX11_symbolAt_44] at h
    refine lv_iload_n S.1 S.2.1 dX11_symbolAt_44 rfl (lv_at hl 0 rfl) ?_
    refine lv_bipush (v := (60 : Int32)) S.1 S.2.1 dX11_symbolAt_45 (by decide) ?_
    refine lv_icmp_ne (tgt := 62) S.1 S.2.1 dX11_symbolAt_47 (by decide) (fun c_5 => ?_) (fun c_5 => ?_)
    · replace h := (if_neg c_5).symm.trans h
      exact P62  _ _ _ _ _ _ h hB hl
    · replace h := (if_pos c_5).symm.trans h
      refine lv_iload_n S.1 S.2.1 dX11_symbolAt_50 rfl (lv_at hl 1 rfl) ?_
      refine lv_bipush (v := (61 : Int32)) S.1 S.2.1 dX11_symbolAt_51 (by decide) ?_
      refine lv_icmp_eq (tgt := 74) S.1 S.2.1 dX11_symbolAt_53 (by decide) (fun c_12 => ?_) (fun c_12 => ?_)
      · replace h := (if_pos c_12).symm.trans h
        exact P74  _ _ _ _ _ h hB (lv_sub hl [0] rfl)
      · replace h := (if_neg c_12).symm.trans h
        refine lv_iload_n S.1 S.2.1 dX11_symbolAt_56 rfl (lv_at hl 1 rfl) ?_
        refine lv_bipush (v := (62 : Int32)) S.1 S.2.1 dX11_symbolAt_57 (by decide) ?_
        refine lv_icmp_eq (tgt := 74) S.1 S.2.1 dX11_symbolAt_59 (by decide) (fun c_13 => ?_) (fun c_13 => ?_)
        · replace h := (if_pos c_13).symm.trans h
          exact P74  _ _ _ _ _ h hB (lv_sub hl [0] rfl)
        · replace h := (if_neg c_13).symm.trans h
          exact P62  _ _ _ _ _ _ h hB hl
  refine lv_aload_n S.1 S.2.1 dX11_symbolAt_0 rfl (lv_at hl 0 rfl) ?_
  refine lv_iload_n S.1 S.2.1 dX11_symbolAt_1 rfl (lv_at hl 1 rfl) ?_
  obtain ⟨r_1, σ_1, e_1, h⟩ := b2s h
  refine mCallI S hK mKSc hKS hA (kX11_byteAt mKSc e_1) (cwX11_105 S.2.2.2.2 (rm := rmX11_byteAt) rfl rfl ⟨Nat.le_of_ble_eq_true rfl, Nat.le_of_ble_eq_true rfl⟩) hB rfl hl.1 rfl (lv_room (Nat.le_of_ble_eq_true rfl)) dX11_symbolAt_2 ⟨Nat.zero_le _, Nat.zero_le _⟩ (fun H locs hB => ?_)
  refine lv_istore_n (lv' := [(2, .int r_1), (0, .ref (ad 0)), (1, .int p0)]) S.1 S.2.1 dX11_symbolAt_5 rfl hl (by decide) rfl (fun ls hl => ?_)
  refine lv_aload_n S.1 S.2.1 dX11_symbolAt_6 rfl (lv_at hl 1 rfl) ?_
  refine lv_iload_n S.1 S.2.1 dX11_symbolAt_7 rfl (lv_at hl 2 rfl) ?_
  refine lv_iconst (v := (1 : Int32)) S.1 S.2.1 dX11_symbolAt_8 (by decide) ?_
  refine lv_iadd S.1 S.2.1 dX11_symbolAt_9 ?_
  obtain ⟨r_2, σ_2, e_2, h⟩ := b2s h
  refine mCallI S hK mKSc hKS hA (kX11_byteAt mKSc e_2) (cwX11_105 S.2.2.2.2 (rm := rmX11_byteAt) rfl rfl ⟨Nat.le_of_ble_eq_true rfl, Nat.le_of_ble_eq_true rfl⟩) hB rfl hl.1 rfl (lv_room (Nat.le_of_ble_eq_true rfl)) dX11_symbolAt_10 ⟨Nat.zero_le _, Nat.zero_le _⟩ (fun H locs hB => ?_)
  refine lv_istore_n (lv' := [(3, .int r_2), (2, .int r_1), (0, .ref (ad 0)), (1, .int p0)]) S.1 S.2.1 dX11_symbolAt_13 rfl hl (by decide) rfl (fun ls hl => ?_)
  refine lv_iload_n S.1 S.2.1 dX11_symbolAt_14 rfl (lv_at hl 1 rfl) ?_
  refine lv_bipush (v := (46 : Int32)) S.1 S.2.1 dX11_symbolAt_15 (by decide) ?_
  refine lv_icmp_ne (tgt := 32) S.1 S.2.1 dX11_symbolAt_17 (by decide) (fun c_3 => ?_) (fun c_3 => ?_)
  · replace h := (if_neg c_3).symm.trans h
    refine lv_iload_n S.1 S.2.1 dX11_symbolAt_32 rfl (lv_at hl 1 rfl) ?_
    refine lv_bipush (v := (58 : Int32)) S.1 S.2.1 dX11_symbolAt_33 (by decide) ?_
    refine lv_icmp_ne (tgt := 44) S.1 S.2.1 dX11_symbolAt_35 (by decide) (fun c_4 => ?_) (fun c_4 => ?_)
    · replace h := (if_neg c_4).symm.trans h
      exact P44  _ _ _ _ _ _ h hB (lv_sub hl [1, 0] rfl)
    · replace h := (if_pos c_4).symm.trans h
      refine lv_iload_n S.1 S.2.1 dX11_symbolAt_38 rfl (lv_at hl 0 rfl) ?_
      refine lv_bipush (v := (61 : Int32)) S.1 S.2.1 dX11_symbolAt_39 (by decide) ?_
      refine lv_icmp_eq (tgt := 74) S.1 S.2.1 dX11_symbolAt_41 (by decide) (fun c_14 => ?_) (fun c_14 => ?_)
      · replace h := (if_pos c_14).symm.trans h
        exact P74  _ _ _ _ _ h hB (lv_sub hl [1] rfl)
      · replace h := (if_neg c_14).symm.trans h
        exact P44  _ _ _ _ _ _ h hB (lv_sub hl [1, 0] rfl)
  · replace h := (if_pos c_3).symm.trans h
    refine lv_iload_n S.1 S.2.1 dX11_symbolAt_20 rfl (lv_at hl 0 rfl) ?_
    refine lv_bipush (v := (46 : Int32)) S.1 S.2.1 dX11_symbolAt_21 (by decide) ?_
    refine lv_icmp_ne (tgt := 30) S.1 S.2.1 dX11_symbolAt_23 (by decide) (fun c_15 => ?_) (fun c_15 => ?_)
    · replace h := (if_neg c_15).symm.trans h
      refine lv_iconst (v := (0 : Int32)) S.1 S.2.1 dX11_symbolAt_30 (by decide) ?_
      cases h
      exact gRetI S.1 S.2.1 hr hlk hB dX11_symbolAt_31
    · replace h := (if_pos c_15).symm.trans h
      refine lv_iconst (v := (2 : Int32)) S.1 S.2.1 dX11_symbolAt_26 (by decide) ?_
      refine lv_goto (tgt := 31) S.1 S.2.1 dX11_symbolAt_27 (by decide) ?_
      cases h
      exact gRetI S.1 S.2.1 hr hlk hB dX11_symbolAt_31
def FX11_scan_187 (L : Nat) (k6 : Int32 → Int32 → Int32 → MS → Option (Unit × MS)) (x1 : Int32) (x2 : Int32) (x4 : Int32) (x5 : Int32) (σ1 : MS) : Option (Unit × MS) :=
    if (x1 < 0 ∨ 1801 ≤ x1.toNatClampNeg) then none else
    if (x1 < 0 ∨ 1801 ≤ x1.toNatClampNeg) then none else
    if (x1 < 0 ∨ 1801 ≤ x1.toNatClampNeg) then none else
    if x5 = 0 then
      k6 (x1 + (1 : Int32)) x4 (0 : Int32) (sA (sA (sA σ1 4 (upd (σ1.2.1 4) x1.toNatClampNeg x5)) 5 (upd (σ1.2.1 5) x1.toNatClampNeg x2)) 6 (upd (σ1.2.1 6) x1.toNatClampNeg x4))
    else
      k6 (x1 + (1 : Int32)) x4 (1 : Int32) (sA (sA (sA σ1 4 (upd (σ1.2.1 4) x1.toNatClampNeg x5)) 5 (upd (σ1.2.1 5) x1.toNatClampNeg x2)) 6 (upd (σ1.2.1 6) x1.toNatClampNeg x4))
def FX11_scan_185 (L : Nat) (k6 : Int32 → Int32 → Int32 → MS → Option (Unit × MS)) (x1 : Int32) (x2 : Int32) (x4 : Int32) (y0 : Int32) (σ1 : MS) : Option (Unit × MS) :=
    FX11_scan_187 L k6 x1 x2 x4 y0 σ1
def FX11_scan_145 (L : Nat) (k6 : Int32 → Int32 → Int32 → MS → Option (Unit × MS)) (x1 : Int32) (x2 : Int32) (x4 : Int32) (y0 : Int32) (σ1 : MS) : Option (Unit × MS) :=
    FX11_scan_187 L k6 x1 x2 x4 y0 σ1
def FX11_scan_113 (L : Nat) (k6 : Int32 → Int32 → Int32 → MS → Option (Unit × MS)) : Nat → Int32 → Int32 → Int32 → MS → Option (Unit × MS)
  | 0, _, _, _, _ => none
  | n+1, x1, x2, x4, σ1 =>
    b2 (FX11_byteAt x4 σ1) fun r_20 σ_20 =>
    (FX11_isDigit r_20).bind fun r_21 =>
    if r_21 = 0 then
      if (6 : Int32) < (x4 - x2) then
        FX11_scan_145 L k6 x1 x2 x4 (4 : Int32) σ_20
      else
        FX11_scan_145 L k6 x1 x2 x4 (2 : Int32) σ_20
    else
      (FX11_scan_113 L k6 n) x1 x2 (x4 + (1 : Int32)) σ_20
def FX11_scan_97 (L : Nat) (k6 : Int32 → Int32 → Int32 → MS → Option (Unit × MS)) (x1 : Int32) (x2 : Int32) (x4 : Int32) (y0 : Int32) (σ1 : MS) : Option (Unit × MS) :=
    FX11_scan_187 L k6 x1 x2 x4 y0 σ1
def FX11_scan_53 (L : Nat) (k6 : Int32 → Int32 → Int32 → MS → Option (Unit × MS)) : Nat → Int32 → Int32 → Int32 → MS → Option (Unit × MS)
  | 0, _, _, _, _ => none
  | n+1, x1, x2, x4, σ1 =>
    b2 (FX11_byteAt x4 σ1) fun r_24 σ_24 =>
    (FX11_isLetter r_24).bind fun r_25 =>
    if r_25 = 0 then
      b2 (FX11_byteAt x4 σ_24) fun r_27 σ_27 =>
      (FX11_isDigit r_27).bind fun r_28 =>
      if r_28 = 0 then
        if (8 : Int32) < (x4 - x2) then
          FX11_scan_97 L k6 x1 x2 x4 (4 : Int32) σ_27
        else
          FX11_scan_97 L k6 x1 x2 x4 (1 : Int32) σ_27
      else
        (FX11_scan_53 L k6 n) x1 x2 (x4 + (1 : Int32)) σ_27
    else
      (FX11_scan_53 L k6 n) x1 x2 (x4 + (1 : Int32)) σ_24
def FX11_scan_10 (L : Nat) (k6 : Int32 → Int32 → Int32 → MS → Option (Unit × MS)) : Nat → Int32 → Int32 → MS → Option (Unit × MS)
  | 0, _, _, _ => none
  | n+1, x1, x2, σ1 =>
    b2 (FX11_byteAt x2 σ1) fun r_2 σ_2 =>
    if r_2 = (32 : Int32) then
      (FX11_scan_10 L k6 n) x1 (x2 + (1 : Int32)) σ_2
    else
      b2 (FX11_byteAt x2 σ_2) fun r_4 σ_4 =>
      if r_4 = (10 : Int32) then
        (FX11_scan_10 L k6 n) x1 (x2 + (1 : Int32)) σ_4
      else
        b2 (FX11_byteAt x2 σ_4) fun r_6 σ_6 =>
        (FX11_isLetter r_6).bind fun r_7 =>
        if r_7 = 0 then
          b2 (FX11_byteAt x2 σ_6) fun r_9 σ_9 =>
          (FX11_isDigit r_9).bind fun r_10 =>
          if r_10 = 0 then
            if (σ_9.1 2) ≤ x2 then
              FX11_scan_187 L k6 x1 x2 x2 (0 : Int32) σ_9
            else
              b2 (FX11_symbolAt L x2 σ_9) fun r_17 σ_17 =>
              b2 (FX11_symbolAt L x2 σ_17) fun r_18 σ_18 =>
              if r_18 ≤ 0 then
                FX11_scan_185 L k6 x1 x2 (x2 + (if (1 : Int32) < r_17 then r_17 else (1 : Int32))) (4 : Int32) σ_18
              else
                FX11_scan_185 L k6 x1 x2 (x2 + (if (1 : Int32) < r_17 then r_17 else (1 : Int32))) (3 : Int32) σ_18
          else
            FX11_scan_113 L k6 L x1 x2 x2 σ_9
        else
          FX11_scan_53 L k6 L x1 x2 x2 σ_6
def FX11_scan_6 (L : Nat)  : Nat → Int32 → Int32 → Int32 → MS → Option (Unit × MS)
  | 0, _, _, _, _ => none
  | n+1, x1, x2, x3, σ1 =>
    if x3 = 0 then
      some ((), σ1)
    else
      FX11_scan_10 L (FX11_scan_6 L n) L x1 x2 σ1
def FX11_scan (L : Nat)  (σ : MS) : Option (Unit × MS) :=
  FX11_scan_6 L L (0 : Int32) (0 : Int32) (1 : Int32) σ
abbrev rmX11_scan : Room := { frames := 5, cells := 0, slots := 0, locals := 115 }
set_option maxRecDepth 100000 in
set_option maxHeartbeats 4000000 in
theorem kX11_scan {l : Launch} {D : va_G} {cI cJ : ClassId} {ad : Nat → Nat} {adK adV tK : Nat → Nat} {L : Nat}  {σ σ' : MS} (h : FX11_scan L  σ = some ((), σ')) : gMet l yX11_scan qX11_scan rmX11_scan 0 0 D vwCl [(cI, .int), (cJ, .long)] (mKS adK adV tK) [.ref (ad 0)] (MW cI cJ ad σ) (MW cI cJ ad σ') none := by
  refine gMet.of (cc := cX11_scan) (maxL := 6) (ret := none) (by decide) rfl (Nat.le_of_ble_eq_true rfl) ?_
  intro p e s m args below meth c S hr hlk hnm hK hKS hA hB ls hl
  have hl : lv_has ls 6 [(0, .ref (ad 0))] := hl
  replace S : CallFix p m c cX11_scan 6 s args (_ :: wsL_law) RX11 := S
  rw [FX11_scan] at h
  have P187 : ∀ (k6 : Int32 → Int32 → Int32 → MS → Option (Unit × MS)) (hk6 : ∀ (x1 : Int32) (x2 : Int32) (x3 : Int32) (σ1 : MS) (H : Heap) (locs : List Loc) (ls : Array Slot), k6 x1 x2 x3 σ1 = some ((), σ') → gB D vwCl (va_A (MW cI cJ ad σ) s.heap.size) s.heap (MW cI cJ ad σ1) [] H locs → lv_has ls 6 [(0, .ref (ad 0)), (1, .int x1), (2, .int x2), (3, .int x3)] → W p l e rmX11_scan s m args below meth c H locs 0 0 (MQ below (gQ D vwCl (MW cI cJ ad σ) (MW cI cJ ad σ') none s.heap.size) args s 0 0 (va_A (MW cI cJ ad σ) s.heap.size)) (F0 m 6 ls [])), ∀ (x1 : Int32) (x2 : Int32) (x4 : Int32) (x5 : Int32) (σ1 : MS) (H : Heap) (locs : List Loc) (ls : Array Slot), FX11_scan_187 L k6 x1 x2 x4 x5 σ1 = some ((), σ') → gB D vwCl (va_A (MW cI cJ ad σ) s.heap.size) s.heap (MW cI cJ ad σ1) [] H locs → lv_has ls 6 [(0, .ref (ad 0)), (1, .int x1), (2, .int x2), (4, .int x4), (5, .int x5)] → W p l e rmX11_scan s m args below meth c H locs 0 0 (MQ below (gQ D vwCl (MW cI cJ ad σ) (MW cI cJ ad σ') none s.heap.size) args s 0 0 (va_A (MW cI cJ ad σ) s.heap.size)) (F0 m 187 ls []) := by
    intro k6 hk6 x1 x2 x4 x5 σ1 H locs ls h hB hl
    rw [FX11_scan_187] at h
    refine lv_aload_n S.1 S.2.1 dX11_scan_187 rfl (lv_at hl 0 rfl) ?_
    refine mg_kinds S hK hB wf_X11_17 dX11_scan_188 ?_
    refine lv_iload_n S.1 S.2.1 dX11_scan_191 rfl (lv_at hl 1 rfl) ?_
    refine lv_iload S.1 S.2.1 dX11_scan_192 (lv_at hl 4 rfl) ?_
    obtain ⟨b_13, h⟩ := gd h
    refine ms_kinds S hK hB b_13 dX11_scan_194 (fun H locs hB => ?_)
    refine lv_aload_n S.1 S.2.1 dX11_scan_195 rfl (lv_at hl 0 rfl) ?_
    refine mg_froms S hK hB wf_X11_20 dX11_scan_196 ?_
    refine lv_iload_n S.1 S.2.1 dX11_scan_199 rfl (lv_at hl 1 rfl) ?_
    refine lv_iload_n S.1 S.2.1 dX11_scan_200 rfl (lv_at hl 2 rfl) ?_
    obtain ⟨b_14, h⟩ := gd h
    refine ms_froms S hK hB b_14 dX11_scan_201 (fun H locs hB => ?_)
    refine lv_aload_n S.1 S.2.1 dX11_scan_202 rfl (lv_at hl 0 rfl) ?_
    refine mg_ends S hK hB wf_X11_23 dX11_scan_203 ?_
    refine lv_iload_n S.1 S.2.1 dX11_scan_206 rfl (lv_at hl 1 rfl) ?_
    refine lv_iload S.1 S.2.1 dX11_scan_207 (lv_at hl 3 rfl) ?_
    obtain ⟨b_15, h⟩ := gd h
    refine ms_ends S hK hB b_15 dX11_scan_209 (fun H locs hB => ?_)
    refine lv_iinc (v := (x1 + (1 : Int32))) (lv' := [(1, .int (x1 + (1 : Int32))), (0, .ref (ad 0)), (2, .int x2), (4, .int x4), (5, .int x5)]) S.1 S.2.1 dX11_scan_210 hl (k := 1) rfl rfl (by decide) rfl (fun ls hl => ?_)
    refine lv_iload S.1 S.2.1 dX11_scan_213 (lv_at hl 3 rfl) ?_
    refine lv_istore_n (lv' := [(2, .int x4), (1, .int (x1 + (1 : Int32))), (0, .ref (ad 0)), (4, .int x4), (5, .int x5)]) S.1 S.2.1 dX11_scan_215 rfl hl (by decide) rfl (fun ls hl => ?_)
    refine lv_iload S.1 S.2.1 dX11_scan_216 (lv_at hl 4 rfl) ?_
    refine lv_if_eq (tgt := 225) S.1 S.2.1 dX11_scan_218 (by decide) (fun c_16 => ?_) (fun c_16 => ?_)
    · replace h := (if_pos c_16).symm.trans h
      refine lv_iconst (v := (0 : Int32)) S.1 S.2.1 dX11_scan_225 (by decide) ?_
      refine lv_istore_n (lv' := [(3, .int (0 : Int32)), (2, .int x4), (1, .int (x1 + (1 : Int32))), (0, .ref (ad 0)), (4, .int x4), (5, .int x5)]) S.1 S.2.1 dX11_scan_226 rfl hl (by decide) rfl (fun ls hl => ?_)
      refine lv_goto (tgt := 6) S.1 S.2.1 dX11_scan_227 (by decide) ?_
      exact hk6 _ _ _ _ _ _ _ h hB (lv_sub hl [3, 2, 1, 0] rfl)
    · replace h := (if_neg c_16).symm.trans h
      refine lv_iconst (v := (1 : Int32)) S.1 S.2.1 dX11_scan_221 (by decide) ?_
      refine lv_goto (tgt := 226) S.1 S.2.1 dX11_scan_222 (by decide) ?_
      refine lv_istore_n (lv' := [(3, .int (1 : Int32)), (2, .int x4), (1, .int (x1 + (1 : Int32))), (0, .ref (ad 0)), (4, .int x4), (5, .int x5)]) S.1 S.2.1 dX11_scan_226 rfl hl (by decide) rfl (fun ls hl => ?_)
      refine lv_goto (tgt := 6) S.1 S.2.1 dX11_scan_227 (by decide) ?_
      exact hk6 _ _ _ _ _ _ _ h hB (lv_sub hl [3, 2, 1, 0] rfl)
  have P185 : ∀ (k6 : Int32 → Int32 → Int32 → MS → Option (Unit × MS)) (hk6 : ∀ (x1 : Int32) (x2 : Int32) (x3 : Int32) (σ1 : MS) (H : Heap) (locs : List Loc) (ls : Array Slot), k6 x1 x2 x3 σ1 = some ((), σ') → gB D vwCl (va_A (MW cI cJ ad σ) s.heap.size) s.heap (MW cI cJ ad σ1) [] H locs → lv_has ls 6 [(0, .ref (ad 0)), (1, .int x1), (2, .int x2), (3, .int x3)] → W p l e rmX11_scan s m args below meth c H locs 0 0 (MQ below (gQ D vwCl (MW cI cJ ad σ) (MW cI cJ ad σ') none s.heap.size) args s 0 0 (va_A (MW cI cJ ad σ) s.heap.size)) (F0 m 6 ls [])), ∀ (x1 : Int32) (x2 : Int32) (x4 : Int32) (y0 : Int32) (σ1 : MS) (H : Heap) (locs : List Loc) (ls : Array Slot), FX11_scan_185 L k6 x1 x2 x4 y0 σ1 = some ((), σ') → gB D vwCl (va_A (MW cI cJ ad σ) s.heap.size) s.heap (MW cI cJ ad σ1) [] H locs → lv_has ls 6 [(0, .ref (ad 0)), (1, .int x1), (2, .int x2), (4, .int x4)] → W p l e rmX11_scan s m args below meth c H locs 0 0 (MQ below (gQ D vwCl (MW cI cJ ad σ) (MW cI cJ ad σ') none s.heap.size) args s 0 0 (va_A (MW cI cJ ad σ) s.heap.size)) (F0 m 185 ls [.int y0]) := by
    intro k6 hk6 x1 x2 x4 y0 σ1 H locs ls h hB hl
    rw [FX11_scan_185] at h
    refine lv_istore (lv' := [(5, .int y0), (0, .ref (ad 0)), (1, .int x1), (2, .int x2), (4, .int x4)]) S.1 S.2.1 dX11_scan_185 hl (by decide) rfl (fun ls hl => ?_)
    exact P187 k6 hk6 _ _ _ _ _ _ _ _ h hB (lv_sub hl [1, 2, 3, 4, 0] rfl)
  have P145 : ∀ (k6 : Int32 → Int32 → Int32 → MS → Option (Unit × MS)) (hk6 : ∀ (x1 : Int32) (x2 : Int32) (x3 : Int32) (σ1 : MS) (H : Heap) (locs : List Loc) (ls : Array Slot), k6 x1 x2 x3 σ1 = some ((), σ') → gB D vwCl (va_A (MW cI cJ ad σ) s.heap.size) s.heap (MW cI cJ ad σ1) [] H locs → lv_has ls 6 [(0, .ref (ad 0)), (1, .int x1), (2, .int x2), (3, .int x3)] → W p l e rmX11_scan s m args below meth c H locs 0 0 (MQ below (gQ D vwCl (MW cI cJ ad σ) (MW cI cJ ad σ') none s.heap.size) args s 0 0 (va_A (MW cI cJ ad σ) s.heap.size)) (F0 m 6 ls [])), ∀ (x1 : Int32) (x2 : Int32) (x4 : Int32) (y0 : Int32) (σ1 : MS) (H : Heap) (locs : List Loc) (ls : Array Slot), FX11_scan_145 L k6 x1 x2 x4 y0 σ1 = some ((), σ') → gB D vwCl (va_A (MW cI cJ ad σ) s.heap.size) s.heap (MW cI cJ ad σ1) [] H locs → lv_has ls 6 [(0, .ref (ad 0)), (1, .int x1), (2, .int x2), (4, .int x4)] → W p l e rmX11_scan s m args below meth c H locs 0 0 (MQ below (gQ D vwCl (MW cI cJ ad σ) (MW cI cJ ad σ') none s.heap.size) args s 0 0 (va_A (MW cI cJ ad σ) s.heap.size)) (F0 m 145 ls [.int y0]) := by
    intro k6 hk6 x1 x2 x4 y0 σ1 H locs ls h hB hl
    rw [FX11_scan_145] at h
    refine lv_istore (lv' := [(5, .int y0), (0, .ref (ad 0)), (1, .int x1), (2, .int x2), (4, .int x4)]) S.1 S.2.1 dX11_scan_145 hl (by decide) rfl (fun ls hl => ?_)
    refine lv_goto (tgt := 187) S.1 S.2.1 dX11_scan_147 (by decide) ?_
    exact P187 k6 hk6 _ _ _ _ _ _ _ _ h hB (lv_sub hl [1, 2, 3, 4, 0] rfl)
  have P113 : ∀ (k6 : Int32 → Int32 → Int32 → MS → Option (Unit × MS)) (hk6 : ∀ (x1 : Int32) (x2 : Int32) (x3 : Int32) (σ1 : MS) (H : Heap) (locs : List Loc) (ls : Array Slot), k6 x1 x2 x3 σ1 = some ((), σ') → gB D vwCl (va_A (MW cI cJ ad σ) s.heap.size) s.heap (MW cI cJ ad σ1) [] H locs → lv_has ls 6 [(0, .ref (ad 0)), (1, .int x1), (2, .int x2), (3, .int x3)] → W p l e rmX11_scan s m args below meth c H locs 0 0 (MQ below (gQ D vwCl (MW cI cJ ad σ) (MW cI cJ ad σ') none s.heap.size) args s 0 0 (va_A (MW cI cJ ad σ) s.heap.size)) (F0 m 6 ls [])) (n : Nat), ∀ (x1 : Int32) (x2 : Int32) (x4 : Int32) (σ1 : MS) (H : Heap) (locs : List Loc) (ls : Array Slot), FX11_scan_113 L k6 n x1 x2 x4 σ1 = some ((), σ') → gB D vwCl (va_A (MW cI cJ ad σ) s.heap.size) s.heap (MW cI cJ ad σ1) [] H locs → lv_has ls 6 [(0, .ref (ad 0)), (1, .int x1), (2, .int x2), (4, .int x4)] → W p l e rmX11_scan s m args below meth c H locs 0 0 (MQ below (gQ D vwCl (MW cI cJ ad σ) (MW cI cJ ad σ') none s.heap.size) args s 0 0 (va_A (MW cI cJ ad σ) s.heap.size)) (F0 m 113 ls []) := by
    intro k6 hk6
    intro n
    induction n with
    | zero => intro x1 x2 x4 σ1 H locs ls h; simp only [FX11_scan_113] at h; cases h
    | succ n ih =>
      intro x1 x2 x4 σ1 H locs ls h hB hl
      rw [FX11_scan_113] at h
      refine lv_aload_n S.1 S.2.1 dX11_scan_113 rfl (lv_at hl 0 rfl) ?_
      refine lv_iload S.1 S.2.1 dX11_scan_114 (lv_at hl 3 rfl) ?_
      obtain ⟨r_20, σ_20, e_20, h⟩ := b2s h
      refine mCallI S hK mKSc hKS hA (kX11_byteAt mKSc e_20) (cwX11_105 S.2.2.2.2 (rm := rmX11_byteAt) rfl rfl ⟨Nat.le_of_ble_eq_true rfl, Nat.le_of_ble_eq_true rfl⟩) hB rfl hl.1 rfl (lv_room (Nat.le_of_ble_eq_true rfl)) dX11_scan_116 ⟨Nat.zero_le _, Nat.zero_le _⟩ (fun H locs hB => ?_)
      obtain ⟨r_21, e_21, h⟩ := bnd h
      refine mCallSI S hK mKSc hKS hA (kX11_isDigit mKSc e_21) (cwX11_119 S.2.2.2.2 (rm := rmX11_isDigit) rfl rfl ⟨Nat.le_of_ble_eq_true rfl, Nat.le_of_ble_eq_true rfl⟩) hB rfl hl.1 rfl (lv_room (Nat.le_of_ble_eq_true rfl)) dX11_scan_119 ⟨Nat.zero_le _, Nat.zero_le _⟩ (fun H locs hB => ?_)
      refine lv_if_eq (tgt := 131) S.1 S.2.1 dX11_scan_122 (by decide) (fun c_22 => ?_) (fun c_22 => ?_)
      · replace h := (if_pos c_22).symm.trans h
        refine lv_iload S.1 S.2.1 dX11_scan_131 (lv_at hl 3 rfl) ?_
        refine lv_iload_n S.1 S.2.1 dX11_scan_133 rfl (lv_at hl 2 rfl) ?_
        refine lv_isub S.1 S.2.1 dX11_scan_134 ?_
        refine lv_bipush (v := (6 : Int32)) S.1 S.2.1 dX11_scan_135 (by decide) ?_
        refine lv_icmp_gt (tgt := 144) S.1 S.2.1 dX11_scan_137 (by decide) (fun c_23 => ?_) (fun c_23 => ?_)
        · replace h := (if_pos c_23).symm.trans h
          refine lv_iconst (v := (4 : Int32)) S.1 S.2.1 dX11_scan_144 (by decide) ?_
          exact P145 k6 hk6 _ _ _ _ _ _ _ _ h hB hl
        · replace h := (if_neg c_23).symm.trans h
          refine lv_iconst (v := (2 : Int32)) S.1 S.2.1 dX11_scan_140 (by decide) ?_
          refine lv_goto (tgt := 145) S.1 S.2.1 dX11_scan_141 (by decide) ?_
          exact P145 k6 hk6 _ _ _ _ _ _ _ _ h hB hl
      · replace h := (if_neg c_22).symm.trans h
        refine lv_iinc (v := (x4 + (1 : Int32))) (lv' := [(4, .int (x4 + (1 : Int32))), (0, .ref (ad 0)), (1, .int x1), (2, .int x2)]) S.1 S.2.1 dX11_scan_125 hl (k := 3) rfl rfl (by decide) rfl (fun ls hl => ?_)
        refine lv_goto (tgt := 113) S.1 S.2.1 dX11_scan_128 (by decide) ?_
        exact ih _ _ _ _ _ _ _ h hB (lv_sub hl [1, 2, 3, 0] rfl)
  have P97 : ∀ (k6 : Int32 → Int32 → Int32 → MS → Option (Unit × MS)) (hk6 : ∀ (x1 : Int32) (x2 : Int32) (x3 : Int32) (σ1 : MS) (H : Heap) (locs : List Loc) (ls : Array Slot), k6 x1 x2 x3 σ1 = some ((), σ') → gB D vwCl (va_A (MW cI cJ ad σ) s.heap.size) s.heap (MW cI cJ ad σ1) [] H locs → lv_has ls 6 [(0, .ref (ad 0)), (1, .int x1), (2, .int x2), (3, .int x3)] → W p l e rmX11_scan s m args below meth c H locs 0 0 (MQ below (gQ D vwCl (MW cI cJ ad σ) (MW cI cJ ad σ') none s.heap.size) args s 0 0 (va_A (MW cI cJ ad σ) s.heap.size)) (F0 m 6 ls [])), ∀ (x1 : Int32) (x2 : Int32) (x4 : Int32) (y0 : Int32) (σ1 : MS) (H : Heap) (locs : List Loc) (ls : Array Slot), FX11_scan_97 L k6 x1 x2 x4 y0 σ1 = some ((), σ') → gB D vwCl (va_A (MW cI cJ ad σ) s.heap.size) s.heap (MW cI cJ ad σ1) [] H locs → lv_has ls 6 [(0, .ref (ad 0)), (1, .int x1), (2, .int x2), (4, .int x4)] → W p l e rmX11_scan s m args below meth c H locs 0 0 (MQ below (gQ D vwCl (MW cI cJ ad σ) (MW cI cJ ad σ') none s.heap.size) args s 0 0 (va_A (MW cI cJ ad σ) s.heap.size)) (F0 m 97 ls [.int y0]) := by
    intro k6 hk6 x1 x2 x4 y0 σ1 H locs ls h hB hl
    rw [FX11_scan_97] at h
    refine lv_istore (lv' := [(5, .int y0), (0, .ref (ad 0)), (1, .int x1), (2, .int x2), (4, .int x4)]) S.1 S.2.1 dX11_scan_97 hl (by decide) rfl (fun ls hl => ?_)
    refine lv_goto (tgt := 187) S.1 S.2.1 dX11_scan_99 (by decide) ?_
    exact P187 k6 hk6 _ _ _ _ _ _ _ _ h hB (lv_sub hl [1, 2, 3, 4, 0] rfl)
  have P53 : ∀ (k6 : Int32 → Int32 → Int32 → MS → Option (Unit × MS)) (hk6 : ∀ (x1 : Int32) (x2 : Int32) (x3 : Int32) (σ1 : MS) (H : Heap) (locs : List Loc) (ls : Array Slot), k6 x1 x2 x3 σ1 = some ((), σ') → gB D vwCl (va_A (MW cI cJ ad σ) s.heap.size) s.heap (MW cI cJ ad σ1) [] H locs → lv_has ls 6 [(0, .ref (ad 0)), (1, .int x1), (2, .int x2), (3, .int x3)] → W p l e rmX11_scan s m args below meth c H locs 0 0 (MQ below (gQ D vwCl (MW cI cJ ad σ) (MW cI cJ ad σ') none s.heap.size) args s 0 0 (va_A (MW cI cJ ad σ) s.heap.size)) (F0 m 6 ls [])) (n : Nat), ∀ (x1 : Int32) (x2 : Int32) (x4 : Int32) (σ1 : MS) (H : Heap) (locs : List Loc) (ls : Array Slot), FX11_scan_53 L k6 n x1 x2 x4 σ1 = some ((), σ') → gB D vwCl (va_A (MW cI cJ ad σ) s.heap.size) s.heap (MW cI cJ ad σ1) [] H locs → lv_has ls 6 [(0, .ref (ad 0)), (1, .int x1), (2, .int x2), (4, .int x4)] → W p l e rmX11_scan s m args below meth c H locs 0 0 (MQ below (gQ D vwCl (MW cI cJ ad σ) (MW cI cJ ad σ') none s.heap.size) args s 0 0 (va_A (MW cI cJ ad σ) s.heap.size)) (F0 m 53 ls []) := by
    intro k6 hk6
    intro n
    induction n with
    | zero => intro x1 x2 x4 σ1 H locs ls h; simp only [FX11_scan_53] at h; cases h
    | succ n ih =>
      intro x1 x2 x4 σ1 H locs ls h hB hl
      rw [FX11_scan_53] at h
      refine lv_aload_n S.1 S.2.1 dX11_scan_53 rfl (lv_at hl 0 rfl) ?_
      refine lv_iload S.1 S.2.1 dX11_scan_54 (lv_at hl 3 rfl) ?_
      obtain ⟨r_24, σ_24, e_24, h⟩ := b2s h
      refine mCallI S hK mKSc hKS hA (kX11_byteAt mKSc e_24) (cwX11_105 S.2.2.2.2 (rm := rmX11_byteAt) rfl rfl ⟨Nat.le_of_ble_eq_true rfl, Nat.le_of_ble_eq_true rfl⟩) hB rfl hl.1 rfl (lv_room (Nat.le_of_ble_eq_true rfl)) dX11_scan_56 ⟨Nat.zero_le _, Nat.zero_le _⟩ (fun H locs hB => ?_)
      obtain ⟨r_25, e_25, h⟩ := bnd h
      refine mCallSI S hK mKSc hKS hA (kX11_isLetter mKSc e_25) (cwX11_115 S.2.2.2.2 (rm := rmX11_isLetter) rfl rfl ⟨Nat.le_of_ble_eq_true rfl, Nat.le_of_ble_eq_true rfl⟩) hB rfl hl.1 rfl (lv_room (Nat.le_of_ble_eq_true rfl)) dX11_scan_59 ⟨Nat.zero_le _, Nat.zero_le _⟩ (fun H locs hB => ?_)
      refine lv_if_ne (tgt := 77) S.1 S.2.1 dX11_scan_62 (by decide) (fun c_26 => ?_) (fun c_26 => ?_)
      · replace h := (if_neg c_26).symm.trans h
        refine lv_iinc (v := (x4 + (1 : Int32))) (lv' := [(4, .int (x4 + (1 : Int32))), (0, .ref (ad 0)), (1, .int x1), (2, .int x2)]) S.1 S.2.1 dX11_scan_77 hl (k := 3) rfl rfl (by decide) rfl (fun ls hl => ?_)
        refine lv_goto (tgt := 53) S.1 S.2.1 dX11_scan_80 (by decide) ?_
        exact ih _ _ _ _ _ _ _ h hB (lv_sub hl [1, 2, 3, 0] rfl)
      · replace h := (if_pos c_26).symm.trans h
        refine lv_aload_n S.1 S.2.1 dX11_scan_65 rfl (lv_at hl 0 rfl) ?_
        refine lv_iload S.1 S.2.1 dX11_scan_66 (lv_at hl 3 rfl) ?_
        obtain ⟨r_27, σ_27, e_27, h⟩ := b2s h
        refine mCallI S hK mKSc hKS hA (kX11_byteAt mKSc e_27) (cwX11_105 S.2.2.2.2 (rm := rmX11_byteAt) rfl rfl ⟨Nat.le_of_ble_eq_true rfl, Nat.le_of_ble_eq_true rfl⟩) hB rfl hl.1 rfl (lv_room (Nat.le_of_ble_eq_true rfl)) dX11_scan_68 ⟨Nat.zero_le _, Nat.zero_le _⟩ (fun H locs hB => ?_)
        obtain ⟨r_28, e_28, h⟩ := bnd h
        refine mCallSI S hK mKSc hKS hA (kX11_isDigit mKSc e_28) (cwX11_119 S.2.2.2.2 (rm := rmX11_isDigit) rfl rfl ⟨Nat.le_of_ble_eq_true rfl, Nat.le_of_ble_eq_true rfl⟩) hB rfl hl.1 rfl (lv_room (Nat.le_of_ble_eq_true rfl)) dX11_scan_71 ⟨Nat.zero_le _, Nat.zero_le _⟩ (fun H locs hB => ?_)
        refine lv_if_eq (tgt := 83) S.1 S.2.1 dX11_scan_74 (by decide) (fun c_29 => ?_) (fun c_29 => ?_)
        · replace h := (if_pos c_29).symm.trans h
          refine lv_iload S.1 S.2.1 dX11_scan_83 (lv_at hl 3 rfl) ?_
          refine lv_iload_n S.1 S.2.1 dX11_scan_85 rfl (lv_at hl 2 rfl) ?_
          refine lv_isub S.1 S.2.1 dX11_scan_86 ?_
          refine lv_bipush (v := (8 : Int32)) S.1 S.2.1 dX11_scan_87 (by decide) ?_
          refine lv_icmp_gt (tgt := 96) S.1 S.2.1 dX11_scan_89 (by decide) (fun c_30 => ?_) (fun c_30 => ?_)
          · replace h := (if_pos c_30).symm.trans h
            refine lv_iconst (v := (4 : Int32)) S.1 S.2.1 dX11_scan_96 (by decide) ?_
            exact P97 k6 hk6 _ _ _ _ _ _ _ _ h hB hl
          · replace h := (if_neg c_30).symm.trans h
            refine lv_iconst (v := (1 : Int32)) S.1 S.2.1 dX11_scan_92 (by decide) ?_
            refine lv_goto (tgt := 97) S.1 S.2.1 dX11_scan_93 (by decide) ?_
            exact P97 k6 hk6 _ _ _ _ _ _ _ _ h hB hl
        · replace h := (if_neg c_29).symm.trans h
          refine lv_iinc (v := (x4 + (1 : Int32))) (lv' := [(4, .int (x4 + (1 : Int32))), (0, .ref (ad 0)), (1, .int x1), (2, .int x2)]) S.1 S.2.1 dX11_scan_77 hl (k := 3) rfl rfl (by decide) rfl (fun ls hl => ?_)
          refine lv_goto (tgt := 53) S.1 S.2.1 dX11_scan_80 (by decide) ?_
          exact ih _ _ _ _ _ _ _ h hB (lv_sub hl [1, 2, 3, 0] rfl)
  have P10 : ∀ (k6 : Int32 → Int32 → Int32 → MS → Option (Unit × MS)) (hk6 : ∀ (x1 : Int32) (x2 : Int32) (x3 : Int32) (σ1 : MS) (H : Heap) (locs : List Loc) (ls : Array Slot), k6 x1 x2 x3 σ1 = some ((), σ') → gB D vwCl (va_A (MW cI cJ ad σ) s.heap.size) s.heap (MW cI cJ ad σ1) [] H locs → lv_has ls 6 [(0, .ref (ad 0)), (1, .int x1), (2, .int x2), (3, .int x3)] → W p l e rmX11_scan s m args below meth c H locs 0 0 (MQ below (gQ D vwCl (MW cI cJ ad σ) (MW cI cJ ad σ') none s.heap.size) args s 0 0 (va_A (MW cI cJ ad σ) s.heap.size)) (F0 m 6 ls [])) (n : Nat), ∀ (x1 : Int32) (x2 : Int32) (σ1 : MS) (H : Heap) (locs : List Loc) (ls : Array Slot), FX11_scan_10 L k6 n x1 x2 σ1 = some ((), σ') → gB D vwCl (va_A (MW cI cJ ad σ) s.heap.size) s.heap (MW cI cJ ad σ1) [] H locs → lv_has ls 6 [(0, .ref (ad 0)), (1, .int x1), (2, .int x2)] → W p l e rmX11_scan s m args below meth c H locs 0 0 (MQ below (gQ D vwCl (MW cI cJ ad σ) (MW cI cJ ad σ') none s.heap.size) args s 0 0 (va_A (MW cI cJ ad σ) s.heap.size)) (F0 m 10 ls []) := by
    intro k6 hk6
    intro n
    induction n with
    | zero => intro x1 x2 σ1 H locs ls h; simp only [FX11_scan_10] at h; cases h
    | succ n ih =>
      intro x1 x2 σ1 H locs ls h hB hl
      rw [FX11_scan_10] at h
      refine lv_aload_n S.1 S.2.1 dX11_scan_10 rfl (lv_at hl 0 rfl) ?_
      refine lv_iload_n S.1 S.2.1 dX11_scan_11 rfl (lv_at hl 2 rfl) ?_
      obtain ⟨r_2, σ_2, e_2, h⟩ := b2s h
      refine mCallI S hK mKSc hKS hA (kX11_byteAt mKSc e_2) (cwX11_105 S.2.2.2.2 (rm := rmX11_byteAt) rfl rfl ⟨Nat.le_of_ble_eq_true rfl, Nat.le_of_ble_eq_true rfl⟩) hB rfl hl.1 rfl (lv_room (Nat.le_of_ble_eq_true rfl)) dX11_scan_12 ⟨Nat.zero_le _, Nat.zero_le _⟩ (fun H locs hB => ?_)
      refine lv_bipush (v := (32 : Int32)) S.1 S.2.1 dX11_scan_15 (by decide) ?_
      refine lv_icmp_eq (tgt := 30) S.1 S.2.1 dX11_scan_17 (by decide) (fun c_3 => ?_) (fun c_3 => ?_)
      · replace h := (if_pos c_3).symm.trans h
        refine lv_iinc (v := (x2 + (1 : Int32))) (lv' := [(2, .int (x2 + (1 : Int32))), (0, .ref (ad 0)), (1, .int x1)]) S.1 S.2.1 dX11_scan_30 hl (k := 2) rfl rfl (by decide) rfl (fun ls hl => ?_)
        refine lv_goto (tgt := 10) S.1 S.2.1 dX11_scan_33 (by decide) ?_
        exact ih _ _ _ _ _ _ h hB (lv_sub hl [1, 2, 0] rfl)
      · replace h := (if_neg c_3).symm.trans h
        refine lv_aload_n S.1 S.2.1 dX11_scan_20 rfl (lv_at hl 0 rfl) ?_
        refine lv_iload_n S.1 S.2.1 dX11_scan_21 rfl (lv_at hl 2 rfl) ?_
        obtain ⟨r_4, σ_4, e_4, h⟩ := b2s h
        refine mCallI S hK mKSc hKS hA (kX11_byteAt mKSc e_4) (cwX11_105 S.2.2.2.2 (rm := rmX11_byteAt) rfl rfl ⟨Nat.le_of_ble_eq_true rfl, Nat.le_of_ble_eq_true rfl⟩) hB rfl hl.1 rfl (lv_room (Nat.le_of_ble_eq_true rfl)) dX11_scan_22 ⟨Nat.zero_le _, Nat.zero_le _⟩ (fun H locs hB => ?_)
        refine lv_bipush (v := (10 : Int32)) S.1 S.2.1 dX11_scan_25 (by decide) ?_
        refine lv_icmp_ne (tgt := 36) S.1 S.2.1 dX11_scan_27 (by decide) (fun c_5 => ?_) (fun c_5 => ?_)
        · replace h := (if_neg c_5).symm.trans h
          refine lv_iload_n S.1 S.2.1 dX11_scan_36 rfl (lv_at hl 2 rfl) ?_
          refine lv_istore (lv' := [(4, .int x2), (0, .ref (ad 0)), (1, .int x1), (2, .int x2)]) S.1 S.2.1 dX11_scan_37 hl (by decide) rfl (fun ls hl => ?_)
          refine lv_iconst (v := (0 : Int32)) S.1 S.2.1 dX11_scan_39 (by decide) ?_
          refine lv_istore (lv' := [(5, .int (0 : Int32)), (4, .int x2), (0, .ref (ad 0)), (1, .int x1), (2, .int x2)]) S.1 S.2.1 dX11_scan_40 hl (by decide) rfl (fun ls hl => ?_)
          refine lv_aload_n S.1 S.2.1 dX11_scan_42 rfl (lv_at hl 2 rfl) ?_
          refine lv_iload_n S.1 S.2.1 dX11_scan_43 rfl (lv_at hl 4 rfl) ?_
          obtain ⟨r_6, σ_6, e_6, h⟩ := b2s h
          refine mCallI S hK mKSc hKS hA (kX11_byteAt mKSc e_6) (cwX11_105 S.2.2.2.2 (rm := rmX11_byteAt) rfl rfl ⟨Nat.le_of_ble_eq_true rfl, Nat.le_of_ble_eq_true rfl⟩) hB rfl hl.1 rfl (lv_room (Nat.le_of_ble_eq_true rfl)) dX11_scan_44 ⟨Nat.zero_le _, Nat.zero_le _⟩ (fun H locs hB => ?_)
          obtain ⟨r_7, e_7, h⟩ := bnd h
          refine mCallSI S hK mKSc hKS hA (kX11_isLetter mKSc e_7) (cwX11_115 S.2.2.2.2 (rm := rmX11_isLetter) rfl rfl ⟨Nat.le_of_ble_eq_true rfl, Nat.le_of_ble_eq_true rfl⟩) hB rfl hl.1 rfl (lv_room (Nat.le_of_ble_eq_true rfl)) dX11_scan_47 ⟨Nat.zero_le _, Nat.zero_le _⟩ (fun H locs hB => ?_)
          refine lv_if_eq (tgt := 102) S.1 S.2.1 dX11_scan_50 (by decide) (fun c_8 => ?_) (fun c_8 => ?_)
          · replace h := (if_pos c_8).symm.trans h
            refine lv_aload_n S.1 S.2.1 dX11_scan_102 rfl (lv_at hl 2 rfl) ?_
            refine lv_iload_n S.1 S.2.1 dX11_scan_103 rfl (lv_at hl 4 rfl) ?_
            obtain ⟨r_9, σ_9, e_9, h⟩ := b2s h
            refine mCallI S hK mKSc hKS hA (kX11_byteAt mKSc e_9) (cwX11_105 S.2.2.2.2 (rm := rmX11_byteAt) rfl rfl ⟨Nat.le_of_ble_eq_true rfl, Nat.le_of_ble_eq_true rfl⟩) hB rfl hl.1 rfl (lv_room (Nat.le_of_ble_eq_true rfl)) dX11_scan_104 ⟨Nat.zero_le _, Nat.zero_le _⟩ (fun H locs hB => ?_)
            obtain ⟨r_10, e_10, h⟩ := bnd h
            refine mCallSI S hK mKSc hKS hA (kX11_isDigit mKSc e_10) (cwX11_119 S.2.2.2.2 (rm := rmX11_isDigit) rfl rfl ⟨Nat.le_of_ble_eq_true rfl, Nat.le_of_ble_eq_true rfl⟩) hB rfl hl.1 rfl (lv_room (Nat.le_of_ble_eq_true rfl)) dX11_scan_107 ⟨Nat.zero_le _, Nat.zero_le _⟩ (fun H locs hB => ?_)
            refine lv_if_eq (tgt := 150) S.1 S.2.1 dX11_scan_110 (by decide) (fun c_11 => ?_) (fun c_11 => ?_)
            · replace h := (if_pos c_11).symm.trans h
              refine lv_iload_n S.1 S.2.1 dX11_scan_150 rfl (lv_at hl 4 rfl) ?_
              refine lv_aload_n S.1 S.2.1 dX11_scan_151 rfl (lv_at hl 2 rfl) ?_
              refine mg_length S hK hB wf_X11_94 rfl dX11_scan_152 ?_
              refine lv_icmp_ge (tgt := 187) S.1 S.2.1 dX11_scan_155 (by decide) (fun c_12 => ?_) (fun c_12 => ?_)
              · replace h := (if_pos c_12).symm.trans h
                exact P187 k6 hk6 _ _ _ _ _ _ _ _ h hB (lv_sub hl [2, 3, 4, 1, 0] rfl)
              · replace h := (if_neg c_12).symm.trans h
                refine lv_iload S.1 S.2.1 dX11_scan_158 (lv_at hl 1 rfl) ?_
                refine lv_iconst (v := (1 : Int32)) S.1 S.2.1 dX11_scan_160 (by decide) ?_
                refine lv_aload_n S.1 S.2.1 dX11_scan_161 rfl (lv_at hl 2 rfl) ?_
                refine lv_iload_n S.1 S.2.1 dX11_scan_162 rfl (lv_at hl 4 rfl) ?_
                obtain ⟨r_17, σ_17, e_17, h⟩ := b2s h
                refine mCallI S hK mKSc hKS hA (kX11_symbolAt e_17) (cwX11_122 S.2.2.2.2 (rm := rmX11_symbolAt) rfl rfl ⟨Nat.le_of_ble_eq_true rfl, Nat.le_of_ble_eq_true rfl⟩) hB rfl hl.1 rfl (lv_room (Nat.le_of_ble_eq_true rfl)) dX11_scan_163 ⟨Nat.zero_le _, Nat.zero_le _⟩ (fun H locs hB => ?_)
                refine va_mmax S.1 S.2.1 (S.2.2.1.trans hl.1.symm) S.2.2.2.1 (S.2.2.2.2 _ (List.mem_cons_of_mem _ wm_X11_125)) (S.2.2.2.2 _ (List.mem_cons_of_mem _ wo_static_Math_max_name)) (S.2.2.2.2 _ (List.mem_cons_of_mem _ wo_init_Math)) (S.2.2.2.2 _ (List.mem_cons_of_mem _ wo_code_Math_max_name)) (Nat.le_of_ble_eq_true rfl) (Nat.le_of_ble_eq_true rfl) (Nat.zero_le _) (Nat.zero_le _) dX11_scan_166 ?_
                refine lv_iadd S.1 S.2.1 dX11_scan_169 ?_
                refine lv_istore (lv' := [(4, .int (x2 + (if (1 : Int32) < r_17 then r_17 else (1 : Int32)))), (5, .int (0 : Int32)), (0, .ref (ad 0)), (1, .int x1), (2, .int x2)]) S.1 S.2.1 dX11_scan_170 hl (by decide) rfl (fun ls hl => ?_)
                refine lv_aload_n S.1 S.2.1 dX11_scan_172 rfl (lv_at hl 2 rfl) ?_
                refine lv_iload_n S.1 S.2.1 dX11_scan_173 rfl (lv_at hl 4 rfl) ?_
                obtain ⟨r_18, σ_18, e_18, h⟩ := b2s h
                refine mCallI S hK mKSc hKS hA (kX11_symbolAt e_18) (cwX11_122 S.2.2.2.2 (rm := rmX11_symbolAt) rfl rfl ⟨Nat.le_of_ble_eq_true rfl, Nat.le_of_ble_eq_true rfl⟩) hB rfl hl.1 rfl (lv_room (Nat.le_of_ble_eq_true rfl)) dX11_scan_174 ⟨Nat.zero_le _, Nat.zero_le _⟩ (fun H locs hB => ?_)
                refine lv_if_le (tgt := 184) S.1 S.2.1 dX11_scan_177 (by decide) (fun c_19 => ?_) (fun c_19 => ?_)
                · replace h := (if_pos c_19).symm.trans h
                  refine lv_iconst (v := (4 : Int32)) S.1 S.2.1 dX11_scan_184 (by decide) ?_
                  exact P185 k6 hk6 _ _ _ _ _ _ _ _ h hB (lv_sub hl [2, 3, 4, 0] rfl)
                · replace h := (if_neg c_19).symm.trans h
                  refine lv_iconst (v := (3 : Int32)) S.1 S.2.1 dX11_scan_180 (by decide) ?_
                  refine lv_goto (tgt := 185) S.1 S.2.1 dX11_scan_181 (by decide) ?_
                  exact P185 k6 hk6 _ _ _ _ _ _ _ _ h hB (lv_sub hl [2, 3, 4, 0] rfl)
            · replace h := (if_neg c_11).symm.trans h
              exact P113 k6 hk6 L _ _ _ _ _ _ _ h hB (lv_sub hl [2, 3, 4, 1] rfl)
          · replace h := (if_neg c_8).symm.trans h
            exact P53 k6 hk6 L _ _ _ _ _ _ _ h hB (lv_sub hl [2, 3, 4, 1] rfl)
        · replace h := (if_pos c_5).symm.trans h
          refine lv_iinc (v := (x2 + (1 : Int32))) (lv' := [(2, .int (x2 + (1 : Int32))), (0, .ref (ad 0)), (1, .int x1)]) S.1 S.2.1 dX11_scan_30 hl (k := 2) rfl rfl (by decide) rfl (fun ls hl => ?_)
          refine lv_goto (tgt := 10) S.1 S.2.1 dX11_scan_33 (by decide) ?_
          exact ih _ _ _ _ _ _ h hB (lv_sub hl [1, 2, 0] rfl)
  have P6 : ∀  (n : Nat), ∀ (x1 : Int32) (x2 : Int32) (x3 : Int32) (σ1 : MS) (H : Heap) (locs : List Loc) (ls : Array Slot), FX11_scan_6 L n x1 x2 x3 σ1 = some ((), σ') → gB D vwCl (va_A (MW cI cJ ad σ) s.heap.size) s.heap (MW cI cJ ad σ1) [] H locs → lv_has ls 6 [(0, .ref (ad 0)), (1, .int x1), (2, .int x2), (3, .int x3)] → W p l e rmX11_scan s m args below meth c H locs 0 0 (MQ below (gQ D vwCl (MW cI cJ ad σ) (MW cI cJ ad σ') none s.heap.size) args s 0 0 (va_A (MW cI cJ ad σ) s.heap.size)) (F0 m 6 ls []) := by
    intro n
    induction n with
    | zero => intro x1 x2 x3 σ1 H locs ls h; simp only [FX11_scan_6] at h; cases h
    | succ n ih =>
      intro x1 x2 x3 σ1 H locs ls h hB hl
      rw [FX11_scan_6] at h
      refine lv_iload_n S.1 S.2.1 dX11_scan_6 rfl (lv_at hl 3 rfl) ?_
      refine lv_if_eq (tgt := 230) S.1 S.2.1 dX11_scan_7 (by decide) (fun c_1 => ?_) (fun c_1 => ?_)
      · replace h := (if_pos c_1).symm.trans h
        cases h
        exact gRetV S.1 S.2.1 hr hlk hB dX11_scan_230
      · replace h := (if_neg c_1).symm.trans h
        exact P10 (FX11_scan_6 L n) ih L _ _ _ _ _ _ h hB (lv_sub hl [0, 1, 2] rfl)
  refine lv_iconst (v := (0 : Int32)) S.1 S.2.1 dX11_scan_0 (by decide) ?_
  refine lv_istore_n (lv' := [(1, .int (0 : Int32)), (0, .ref (ad 0))]) S.1 S.2.1 dX11_scan_1 rfl hl (by decide) rfl (fun ls hl => ?_)
  refine lv_iconst (v := (0 : Int32)) S.1 S.2.1 dX11_scan_2 (by decide) ?_
  refine lv_istore_n (lv' := [(2, .int (0 : Int32)), (1, .int (0 : Int32)), (0, .ref (ad 0))]) S.1 S.2.1 dX11_scan_3 rfl hl (by decide) rfl (fun ls hl => ?_)
  refine lv_iconst (v := (1 : Int32)) S.1 S.2.1 dX11_scan_4 (by decide) ?_
  refine lv_istore_n (lv' := [(3, .int (1 : Int32)), (2, .int (0 : Int32)), (1, .int (0 : Int32)), (0, .ref (ad 0))]) S.1 S.2.1 dX11_scan_5 rfl hl (by decide) rfl (fun ls hl => ?_)
  exact P6  L _ _ _ _ _ _ _ h hB (lv_sub hl [3, 2, 1, 0] rfl)
