def FX11_feed_80 (L : Nat) (k63 : Int32 → Int32 → (Nat → Int32) → MS → Option (Int32 × MS)) : Nat → Int32 → Int32 → Int32 → Int32 → (Nat → Int32) → MS → Option (Int32 × MS)
  | 0, _, _, _, _, _, _ => none
  | n+1, x8, x9, x10, x11, xc, σ1 =>
    if x11 < 0 then
      k63 x8 (x9 + (1 : Int32)) xc σ1
    else
      if ((σ1.1 2) < 0 ∨ 1800 ≤ (σ1.1 2).toNatClampNeg) then none else
      (FX11_feed_80 L k63 n) x8 x9 x10 (x11 + (-1 : Int32)) xc (sI (sA σ1 1 (upd (σ1.2.1 1) (σ1.1 2).toNatClampNeg ((x10 >>> (((8 : Int32) * x11) &&& 31)) &&& (255 : Int32)))) 2 ((σ1.1 2) + (1 : Int32)))
def FX11_feed_63 (L : Nat)  : Nat → Int32 → Int32 → (Nat → Int32) → MS → Option (Int32 × MS)
  | 0, _, _, _, _ => none
  | n+1, x8, x9, xc, σ1 =>
    if x8 ≤ x9 then
      some (σ1.1 2, σ1)
    else
      if (x9 < 0 ∨ 5 ≤ x9.toNatClampNeg) then none else
      FX11_feed_80 L (FX11_feed_63 L n) L x8 x9 (xc x9.toNatClampNeg) (3 : Int32) xc σ1
def FX11_feed (L : Nat) (p0 : Int32) (p1 : Int32) (p2 : Int32) (p3 : Int32) (p4 : Int32) (σ : MS) : Option (Int32 × MS) :=
  if ((σ.1 2) + (20 : Int32)) ≤ (1800 : Int32) then
    FX11_feed_63 L L (5 : Int32) (0 : Int32) (upd (upd (upd (upd (upd (fun _ => 0) (0 : Int32).toNatClampNeg p0) (1 : Int32).toNatClampNeg p1) (2 : Int32).toNatClampNeg p2) (3 : Int32).toNatClampNeg p3) (4 : Int32).toNatClampNeg p4) (sI σ 0 (0 : Int32))
  else
    b2 (FX11_no (1 : Int32) (sI σ 0 (0 : Int32))) fun r_6 σ_6 =>
    some (r_6, σ_6)
abbrev rmX11_feed : Room := { frames := 1, cells := 1, slots := 5, locals := 21 }
set_option maxRecDepth 100000 in
set_option maxHeartbeats 4000000 in
theorem kX11_feed {l : Launch} {D : va_G} {cI cJ : ClassId} {ad : Nat → Nat} {KS : (Nat → Prop) → State → Prop} {L : Nat} (hc : gC KS) {p0 : Int32} {p1 : Int32} {p2 : Int32} {p3 : Int32} {p4 : Int32} {σ σ' : MS} {r : Int32} (h : FX11_feed L p0 p1 p2 p3 p4 σ = some (r, σ')) : gMet l yX11_feed qX11_feed rmX11_feed 1 5 D vwCl [(cI, .int), (cJ, .long)] KS [.ref (ad 0), .int p0, .int p1, .int p2, .int p3, .int p4] (MW cI cJ ad σ) (MW cI cJ ad σ') (some (.int r)) := by
  refine gMet.of (cc := cX11_feed) (maxL := 12) (ret := (some .int)) (by decide) rfl (Nat.le_of_ble_eq_true rfl) ?_
  intro p e s m args below meth c S hr hlk hnm hK hKS hA hB ls hl
  have hl : lv_has ls 12 [(0, .ref (ad 0)), (1, .int p0), (2, .int p1), (3, .int p2), (4, .int p3), (5, .int p4)] := hl
  replace S : CallFix p m c cX11_feed 12 s args (_ :: wsL_law) RX11 := S
  rw [FX11_feed] at h
  have P80 : ∀ (k63 : Int32 → Int32 → (Nat → Int32) → MS → Option (Int32 × MS)) (hk63 : ∀ (q : Nat) (cA : ClassId) (_ : va_K D vwCl [(cI, .int), (cJ, .long), (cA, .int)] s) (x8 : Int32) (x9 : Int32) (xc : (Nat → Int32)) (σ1 : MS) (H : Heap) (locs : List Loc) (ls : Array Slot), k63 x8 x9 xc σ1 = some (r, σ') → gB D vwCl (va_A (MW cI cJ ad σ) s.heap.size) s.heap (MW cI cJ ad σ1) [(q, .inl (cA, 5, .inl xc))] H locs → lv_has ls 12 [(0, .ref (ad 0)), (7, .ref q), (8, .int x8), (9, .int x9)] → W p l e rmX11_feed s m args below meth c H locs 1 5 (MQ below (gQ D vwCl (MW cI cJ ad σ) (MW cI cJ ad σ') (some (.int r)) s.heap.size) args s 1 5 (va_A (MW cI cJ ad σ) s.heap.size)) (F0 m 63 ls [])) (n : Nat), ∀ (q : Nat) (cA : ClassId) (_ : va_K D vwCl [(cI, .int), (cJ, .long), (cA, .int)] s) (x8 : Int32) (x9 : Int32) (x10 : Int32) (x11 : Int32) (xc : (Nat → Int32)) (σ1 : MS) (H : Heap) (locs : List Loc) (ls : Array Slot), FX11_feed_80 L k63 n x8 x9 x10 x11 xc σ1 = some (r, σ') → gB D vwCl (va_A (MW cI cJ ad σ) s.heap.size) s.heap (MW cI cJ ad σ1) [(q, .inl (cA, 5, .inl xc))] H locs → lv_has ls 12 [(0, .ref (ad 0)), (7, .ref q), (8, .int x8), (9, .int x9), (10, .int x10), (11, .int x11)] → W p l e rmX11_feed s m args below meth c H locs 1 5 (MQ below (gQ D vwCl (MW cI cJ ad σ) (MW cI cJ ad σ') (some (.int r)) s.heap.size) args s 1 5 (va_A (MW cI cJ ad σ) s.heap.size)) (F0 m 80 ls []) := by
    intro k63 hk63
    intro n
    induction n with
    | zero => intro q cA hK3 x8 x9 x10 x11 xc σ1 H locs ls h; simp only [FX11_feed_80] at h; cases h
    | succ n ih =>
      intro q cA hK3 x8 x9 x10 x11 xc σ1 H locs ls h hB hl
      rw [FX11_feed_80] at h
      refine lv_iload S.1 S.2.1 dX11_feed_80 (lv_at hl 5 rfl) ?_
      refine lv_if_lt (tgt := 122) S.1 S.2.1 dX11_feed_82 (by decide) (fun c_4 => ?_) (fun c_4 => ?_)
      · replace h := (if_pos c_4).symm.trans h
        refine lv_iinc (v := (x9 + (1 : Int32))) (lv' := [(9, .int (x9 + (1 : Int32))), (0, .ref (ad 0)), (7, .ref q), (8, .int x8), (10, .int x10), (11, .int x11)]) S.1 S.2.1 dX11_feed_122 hl (k := 3) rfl rfl (by decide) rfl (fun ls hl => ?_)
        refine lv_goto (tgt := 63) S.1 S.2.1 dX11_feed_125 (by decide) ?_
        exact hk63 _ _ hK3 _ _ _ _ _ _ _ h hB (lv_sub hl [1, 2, 3, 0] rfl)
      · replace h := (if_neg c_4).symm.trans h
        refine lv_aload_n S.1 S.2.1 dX11_feed_85 rfl (lv_at hl 0 rfl) ?_
        refine mg_tape S hK hB wf_X11_9 dX11_feed_86 ?_
        refine lv_aload_n S.1 S.2.1 dX11_feed_89 rfl (lv_at hl 0 rfl) ?_
        refine mg_length S hK hB wf_X11_94 rfl dX11_feed_90 ?_
        refine lv_iload S.1 S.2.1 dX11_feed_93 (lv_at hl 4 rfl) ?_
        refine lv_bipush (v := (8 : Int32)) S.1 S.2.1 dX11_feed_95 (by decide) ?_
        refine lv_iload S.1 S.2.1 dX11_feed_97 (lv_at hl 5 rfl) ?_
        refine lv_imul S.1 S.2.1 dX11_feed_99 ?_
        refine lv_ishr S.1 S.2.1 dX11_feed_100 ?_
        refine lv_sipush (v := (255 : Int32)) S.1 S.2.1 dX11_feed_101 (by decide) ?_
        refine lv_iand S.1 S.2.1 dX11_feed_104 ?_
        obtain ⟨b_5, h⟩ := gd h
        refine ms_tape S hK hB b_5 dX11_feed_105 (fun H locs hB => ?_)
        refine lv_aload_n S.1 S.2.1 dX11_feed_106 rfl (lv_at hl 0 rfl) ?_
        refine lv_dup S.1 S.2.1 dX11_feed_107 rfl ?_
        refine mg_length (v := (σ1.1 2)) S hK hB wf_X11_94 rfl dX11_feed_108 ?_
        refine lv_iconst (v := (1 : Int32)) S.1 S.2.1 dX11_feed_111 (by decide) ?_
        refine lv_iadd S.1 S.2.1 dX11_feed_112 ?_
        refine mp_length S hK hB wf_X11_94 dX11_feed_113 (fun H locs hB => ?_)
        refine lv_iinc (v := (x11 + (-1 : Int32))) (lv' := [(11, .int (x11 + (-1 : Int32))), (0, .ref (ad 0)), (7, .ref q), (8, .int x8), (9, .int x9), (10, .int x10)]) S.1 S.2.1 dX11_feed_116 hl (k := 5) rfl rfl (by decide) rfl (fun ls hl => ?_)
        refine lv_goto (tgt := 80) S.1 S.2.1 dX11_feed_119 (by decide) ?_
        exact ih _ _ hK3 _ _ _ _ _ _ _ _ _ h hB (lv_sub hl [1, 2, 3, 4, 5, 0] rfl)
  have P63 : ∀  (n : Nat), ∀ (q : Nat) (cA : ClassId) (_ : va_K D vwCl [(cI, .int), (cJ, .long), (cA, .int)] s) (x8 : Int32) (x9 : Int32) (xc : (Nat → Int32)) (σ1 : MS) (H : Heap) (locs : List Loc) (ls : Array Slot), FX11_feed_63 L n x8 x9 xc σ1 = some (r, σ') → gB D vwCl (va_A (MW cI cJ ad σ) s.heap.size) s.heap (MW cI cJ ad σ1) [(q, .inl (cA, 5, .inl xc))] H locs → lv_has ls 12 [(0, .ref (ad 0)), (7, .ref q), (8, .int x8), (9, .int x9)] → W p l e rmX11_feed s m args below meth c H locs 1 5 (MQ below (gQ D vwCl (MW cI cJ ad σ) (MW cI cJ ad σ') (some (.int r)) s.heap.size) args s 1 5 (va_A (MW cI cJ ad σ) s.heap.size)) (F0 m 63 ls []) := by
    intro n
    induction n with
    | zero => intro q cA hK3 x8 x9 xc σ1 H locs ls h; simp only [FX11_feed_63] at h; cases h
    | succ n ih =>
      intro q cA hK3 x8 x9 xc σ1 H locs ls h hB hl
      rw [FX11_feed_63] at h
      refine lv_iload S.1 S.2.1 dX11_feed_63 (lv_at hl 3 rfl) ?_
      refine lv_iload S.1 S.2.1 dX11_feed_65 (lv_at hl 2 rfl) ?_
      refine lv_icmp_ge (tgt := 128) S.1 S.2.1 dX11_feed_67 (by decide) (fun c_2 => ?_) (fun c_2 => ?_)
      · replace h := (if_pos c_2).symm.trans h
        refine lv_aload_n S.1 S.2.1 dX11_feed_128 rfl (lv_at hl 0 rfl) ?_
        refine mg_length S hK hB wf_X11_94 rfl dX11_feed_129 ?_
        replace hB := gDrop hB
        cases h
        exact gRetI S.1 S.2.1 hr hlk hB dX11_feed_132
      · replace h := (if_neg c_2).symm.trans h
        refine lv_aload S.1 S.2.1 dX11_feed_70 (lv_at hl 1 rfl) ?_
        refine lv_iload S.1 S.2.1 dX11_feed_72 (lv_at hl 3 rfl) ?_
        obtain ⟨b_3, h⟩ := gd h
        refine mAldI S hK3 hB b_3 dX11_feed_74 ?_
        refine lv_istore (lv' := [(10, .int (xc x9.toNatClampNeg)), (0, .ref (ad 0)), (7, .ref q), (8, .int x8), (9, .int x9)]) S.1 S.2.1 dX11_feed_75 hl (by decide) rfl (fun ls hl => ?_)
        refine lv_iconst (v := (3 : Int32)) S.1 S.2.1 dX11_feed_77 (by decide) ?_
        refine lv_istore (lv' := [(11, .int (3 : Int32)), (10, .int (xc x9.toNatClampNeg)), (0, .ref (ad 0)), (7, .ref q), (8, .int x8), (9, .int x9)]) S.1 S.2.1 dX11_feed_78 hl (by decide) rfl (fun ls hl => ?_)
        exact P80 (FX11_feed_63 L n) ih L _ _ hK3 _ _ _ _ _ _ _ _ _ h hB (lv_sub hl [2, 3, 4, 5, 1, 0] rfl)
  refine lv_aload_n S.1 S.2.1 dX11_feed_0 rfl (lv_at hl 0 rfl) ?_
  refine lv_iconst (v := (0 : Int32)) S.1 S.2.1 dX11_feed_1 (by decide) ?_
  refine mp_thrown S hK hB wf_X11_91 dX11_feed_2 (fun H locs hB => ?_)
  refine lv_aload_n S.1 S.2.1 dX11_feed_5 rfl (lv_at hl 0 rfl) ?_
  refine mg_length (v := (σ.1 2)) S hK hB wf_X11_94 rfl dX11_feed_6 ?_
  refine lv_bipush (v := (20 : Int32)) S.1 S.2.1 dX11_feed_9 (by decide) ?_
  refine lv_iadd S.1 S.2.1 dX11_feed_11 ?_
  refine lv_sipush (v := (1800 : Int32)) S.1 S.2.1 dX11_feed_12 (by decide) ?_
  refine lv_icmp_le (tgt := 24) S.1 S.2.1 dX11_feed_15 (by decide) (fun c_1 => ?_) (fun c_1 => ?_)
  · replace h := (if_pos c_1).symm.trans h
    refine lv_iconst (v := (5 : Int32)) S.1 S.2.1 dX11_feed_24 (by decide) ?_
    refine mNewI S hK hB hA (by decide) dX11_feed_25 (fun q cA H hK3 hB => ?_)
    refine lv_dup S.1 S.2.1 dX11_feed_27 rfl ?_
    refine lv_iconst (v := (0 : Int32)) S.1 S.2.1 dX11_feed_28 (by decide) ?_
    refine lv_iload_n S.1 S.2.1 dX11_feed_29 rfl (lv_at hl 1 rfl) ?_
    refine mAstI S hK3 hB (by unfold vp_in; decide) dX11_feed_30 (fun H locs hB => ?_)
    refine lv_dup S.1 S.2.1 dX11_feed_31 rfl ?_
    refine lv_iconst (v := (1 : Int32)) S.1 S.2.1 dX11_feed_32 (by decide) ?_
    refine lv_iload_n S.1 S.2.1 dX11_feed_33 rfl (lv_at hl 2 rfl) ?_
    refine mAstI S hK3 hB (by unfold vp_in; decide) dX11_feed_34 (fun H locs hB => ?_)
    refine lv_dup S.1 S.2.1 dX11_feed_35 rfl ?_
    refine lv_iconst (v := (2 : Int32)) S.1 S.2.1 dX11_feed_36 (by decide) ?_
    refine lv_iload_n S.1 S.2.1 dX11_feed_37 rfl (lv_at hl 3 rfl) ?_
    refine mAstI S hK3 hB (by unfold vp_in; decide) dX11_feed_38 (fun H locs hB => ?_)
    refine lv_dup S.1 S.2.1 dX11_feed_39 rfl ?_
    refine lv_iconst (v := (3 : Int32)) S.1 S.2.1 dX11_feed_40 (by decide) ?_
    refine lv_iload S.1 S.2.1 dX11_feed_41 (lv_at hl 4 rfl) ?_
    refine mAstI S hK3 hB (by unfold vp_in; decide) dX11_feed_43 (fun H locs hB => ?_)
    refine lv_dup S.1 S.2.1 dX11_feed_44 rfl ?_
    refine lv_iconst (v := (4 : Int32)) S.1 S.2.1 dX11_feed_45 (by decide) ?_
    refine lv_iload S.1 S.2.1 dX11_feed_46 (lv_at hl 5 rfl) ?_
    refine mAstI S hK3 hB (by unfold vp_in; decide) dX11_feed_48 (fun H locs hB => ?_)
    refine lv_astore (lv' := [(6, .ref q), (0, .ref (ad 0)), (1, .int p0), (2, .int p1), (3, .int p2), (4, .int p3), (5, .int p4)]) S.1 S.2.1 dX11_feed_49 hl (by decide) rfl (fun ls hl => ?_)
    refine lv_aload S.1 S.2.1 dX11_feed_51 (lv_at hl 0 rfl) ?_
    refine lv_astore (lv' := [(7, .ref q), (6, .ref q), (0, .ref (ad 0)), (1, .int p0), (2, .int p1), (3, .int p2), (4, .int p3), (5, .int p4)]) S.1 S.2.1 dX11_feed_53 hl (by decide) rfl (fun ls hl => ?_)
    refine lv_aload S.1 S.2.1 dX11_feed_55 (lv_at hl 0 rfl) ?_
    refine mAlenI S hK3 hB dX11_feed_57 ?_
    refine lv_istore (lv' := [(8, .int (5 : Int32)), (7, .ref q), (6, .ref q), (0, .ref (ad 0)), (1, .int p0), (2, .int p1), (3, .int p2), (4, .int p3), (5, .int p4)]) S.1 S.2.1 dX11_feed_58 hl (by decide) rfl (fun ls hl => ?_)
    refine lv_iconst (v := (0 : Int32)) S.1 S.2.1 dX11_feed_60 (by decide) ?_
    refine lv_istore (lv' := [(9, .int (0 : Int32)), (8, .int (5 : Int32)), (7, .ref q), (6, .ref q), (0, .ref (ad 0)), (1, .int p0), (2, .int p1), (3, .int p2), (4, .int p3), (5, .int p4)]) S.1 S.2.1 dX11_feed_61 hl (by decide) rfl (fun ls hl => ?_)
    exact P63  L _ _ hK3 _ _ _ _ _ _ _ h hB (lv_sub hl [4, 2, 1, 0] rfl)
  · replace h := (if_neg c_1).symm.trans h
    refine lv_aload_n S.1 S.2.1 dX11_feed_18 rfl (lv_at hl 0 rfl) ?_
    refine lv_iconst (v := (1 : Int32)) S.1 S.2.1 dX11_feed_19 (by decide) ?_
    obtain ⟨r_6, σ_6, e_6, h⟩ := b2s h
    refine mCallI S hK hc hKS hA (kX11_no hc e_6) (cwX11_97 S.2.2.2.2 (rm := rmX11_no) rfl rfl ⟨Nat.le_of_ble_eq_true rfl, Nat.le_of_ble_eq_true rfl⟩) hB rfl hl.1 rfl (lv_room (Nat.le_of_ble_eq_true rfl)) dX11_feed_20 ⟨by decide, by decide⟩ (fun H locs hB => ?_)
    refine W.widen (k := 1) (n := 5) (by decide) (by decide) ?_
    cases h
    exact gRetI S.1 S.2.1 hr hlk hB dX11_feed_23
def FX11_keep  (σ : MS) : Option (Int32 × MS) :=
  if ((0 : Int32) < 0 ∨ 4 ≤ (0 : Int32).toNatClampNeg) then none else
  some (σ.1 29, (sB (sA (sI (sI (sI σ 0 (0 : Int32)) 33 (σ.1 29)) 34 (σ.2.1 23 (0 : Int32).toNatClampNeg)) 35 (va_cpy (σ.2.1 30) (σ.2.1 35) 0 0 120)) 36 (va_cpy (σ.2.2 31) (σ.2.2 36) 0 0 960)))
abbrev rmX11_keep : Room := { frames := 1, cells := 0, slots := 0, locals := 60 }
set_option maxRecDepth 100000 in
set_option maxHeartbeats 4000000 in
theorem kX11_keep {l : Launch} {D : va_G} {cI cJ : ClassId} {ad : Nat → Nat} {KS : (Nat → Prop) → State → Prop} (hc : gC KS)  {σ σ' : MS} {r : Int32} (h : FX11_keep  σ = some (r, σ')) : gMet l yX11_keep qX11_keep rmX11_keep 0 0 D vwCl [(cI, .int), (cJ, .long)] KS [.ref (ad 0)] (MW cI cJ ad σ) (MW cI cJ ad σ') (some (.int r)) := by
  refine gMet.of (cc := cX11_keep) (maxL := 1) (ret := (some .int)) (by decide) rfl (Nat.le_of_ble_eq_true rfl) ?_
  intro p e s m args below meth c S hr hlk hnm hK hKS hA hB ls hl
  have hl : lv_has ls 1 [(0, .ref (ad 0))] := hl
  replace S : CallFix p m c cX11_keep 1 s args (_ :: wsL_law) RX11 := S
  rw [FX11_keep] at h
  refine lv_aload_n S.1 S.2.1 dX11_keep_0 rfl (lv_at hl 0 rfl) ?_
  refine lv_iconst (v := (0 : Int32)) S.1 S.2.1 dX11_keep_1 (by decide) ?_
  refine mp_thrown S hK hB wf_X11_91 dX11_keep_2 (fun H locs hB => ?_)
  refine lv_aload_n S.1 S.2.1 dX11_keep_5 rfl (lv_at hl 0 rfl) ?_
  refine lv_aload_n S.1 S.2.1 dX11_keep_6 rfl (lv_at hl 0 rfl) ?_
  refine mg_steps (v := (σ.1 29)) S hK hB wf_X11_369 rfl dX11_keep_7 ?_
  refine mp_kept S hK hB wf_X11_387 dX11_keep_10 (fun H locs hB => ?_)
  refine lv_aload_n S.1 S.2.1 dX11_keep_13 rfl (lv_at hl 0 rfl) ?_
  refine lv_aload_n S.1 S.2.1 dX11_keep_14 rfl (lv_at hl 0 rfl) ?_
  refine mg_many S hK hB wf_X11_61 dX11_keep_15 ?_
  refine lv_iconst (v := (0 : Int32)) S.1 S.2.1 dX11_keep_18 (by decide) ?_
  obtain ⟨b_1, h⟩ := gd h
  refine ml_many (v := (σ.2.1 23 (0 : Int32).toNatClampNeg)) S hK hB b_1 rfl dX11_keep_19 ?_
  refine mp_keptMany S hK hB wf_X11_451 dX11_keep_20 (fun H locs hB => ?_)
  refine lv_aload_n S.1 S.2.1 dX11_keep_23 rfl (lv_at hl 0 rfl) ?_
  refine mg_times S hK hB wf_X11_76 dX11_keep_24 ?_
  refine lv_iconst (v := (0 : Int32)) S.1 S.2.1 dX11_keep_27 (by decide) ?_
  refine lv_aload_n S.1 S.2.1 dX11_keep_28 rfl (lv_at hl 0 rfl) ?_
  refine mg_keptTimes S hK hB wf_X11_85 dX11_keep_29 ?_
  refine lv_iconst (v := (0 : Int32)) S.1 S.2.1 dX11_keep_32 (by decide) ?_
  refine lv_bipush (v := (120 : Int32)) S.1 S.2.1 dX11_keep_33 (by decide) ?_
  refine mCopy_times S hK hB hl.1 wm_X11_454 (by decide) (by decide) dX11_keep_35 (fun H locs hB => ?_)
  refine lv_aload_n S.1 S.2.1 dX11_keep_38 rfl (lv_at hl 0 rfl) ?_
  refine mg_signals S hK hB wf_X11_79 dX11_keep_39 ?_
  refine lv_iconst (v := (0 : Int32)) S.1 S.2.1 dX11_keep_42 (by decide) ?_
  refine lv_aload_n S.1 S.2.1 dX11_keep_43 rfl (lv_at hl 0 rfl) ?_
  refine mg_keptSignals S hK hB wf_X11_88 dX11_keep_44 ?_
  refine lv_iconst (v := (0 : Int32)) S.1 S.2.1 dX11_keep_47 (by decide) ?_
  refine lv_sipush (v := (960 : Int32)) S.1 S.2.1 dX11_keep_48 (by decide) ?_
  refine mCopy_signals S hK hB hl.1 wm_X11_454 (by decide) (by decide) dX11_keep_51 (fun H locs hB => ?_)
  refine lv_aload_n S.1 S.2.1 dX11_keep_54 rfl (lv_at hl 0 rfl) ?_
  refine mg_kept (v := (σ.1 29)) S hK hB wf_X11_387 rfl dX11_keep_55 ?_
  cases h
  exact gRetI S.1 S.2.1 hr hlk hB dX11_keep_58
def FX11_itemMeant_334 (L : Nat)  (x3 : Int32) (x4 : Int32) (σ1 : MS) : Option (Int32 × MS) :=
    b2 (FX11_nameOf L x4 σ1) fun r_15 σ_15 =>
    if ((σ1.1 19) < 0 ∨ 44 ≤ (σ1.1 19).toNatClampNeg) then none else
    if ((σ_15.1 19) < 0 ∨ 44 ≤ (σ_15.1 19).toNatClampNeg) then none else
    if (x3 < 0 ∨ 4 ≤ x3.toNatClampNeg) then none else
    if ((σ_15.1 19) < 0 ∨ 44 ≤ (σ_15.1 19).toNatClampNeg) then none else
    if (x3 < 0 ∨ 4 ≤ x3.toNatClampNeg) then none else
    if (x3 < 0 ∨ 4 ≤ x3.toNatClampNeg) then none else
    some ((0 : Int32), (sA (sI (sA (sA (sB σ_15 20 (vp_updL (σ_15.2.2 20) (σ1.1 19).toNatClampNeg r_15)) 21 (upd (σ_15.2.1 21) (σ_15.1 19).toNatClampNeg x3)) 22 (upd (σ_15.2.1 22) (σ_15.1 19).toNatClampNeg (σ_15.2.1 23 x3.toNatClampNeg))) 19 ((σ_15.1 19) + (1 : Int32))) 23 (upd (σ_15.2.1 23) x3.toNatClampNeg ((σ_15.2.1 23 x3.toNatClampNeg) + (1 : Int32)))))
def FX11_itemMeant_263 (L : Nat)  (x3 : Int32) (x4 : Int32) (σ1 : MS) : Option (Int32 × MS) :=
    b2 (FX11_sees L 10 σ1) fun r_13 σ_13 =>
    if r_13 = 0 then
      FX11_itemMeant_334 L x3 x4 σ_13
    else
      b2 (FX11_numberOf L ((σ_13.1 7) + (1 : Int32)) (sI σ_13 7 ((σ_13.1 7) + (1 : Int32)))) fun r_22 σ_22 =>
      if r_22 ≤ (9 : Int32) then
        if ((3 : Int32) < 0 ∨ 4 ≤ (3 : Int32).toNatClampNeg) then none else
        b2 (FX11_numberOf L (σ_22.1 7) σ_22) fun r_25 σ_25 =>
        if ((σ_22.2.1 23 (3 : Int32).toNatClampNeg) < 0 ∨ 12 ≤ (σ_22.2.1 23 (3 : Int32).toNatClampNeg).toNatClampNeg) then none else
        FX11_itemMeant_334 L x3 x4 (sI (sA σ_25 26 (upd (σ_25.2.1 26) (σ_22.2.1 23 (3 : Int32).toNatClampNeg).toNatClampNeg r_25)) 7 ((σ_25.1 7) + (1 : Int32)))
      else
        b2 (FX11_wrong (5 : Int32) (σ_22.1 7) σ_22) fun r_27 σ_27 =>
        some (r_27, σ_27)
def FX11_itemMeant_246 (L : Nat)  (x3 : Int32) (x4 : Int32) (σ1 : MS) : Option (Int32 × MS) :=
    if x3 = (3 : Int32) then
      if ((3 : Int32) < 0 ∨ 4 ≤ (3 : Int32).toNatClampNeg) then none else
      if ((σ1.2.1 23 (3 : Int32).toNatClampNeg) < 0 ∨ 12 ≤ (σ1.2.1 23 (3 : Int32).toNatClampNeg).toNatClampNeg) then none else
      FX11_itemMeant_263 L x3 x4 (sA σ1 26 (upd (σ1.2.1 26) (σ1.2.1 23 (3 : Int32).toNatClampNeg).toNatClampNeg (5 : Int32)))
    else
      FX11_itemMeant_263 L x3 x4 σ1
def FX11_itemMeant_214 (L : Nat)  (x3 : Int32) (x4 : Int32) (x5 : Int32) (σ1 : MS) : Option (Int32 × MS) :=
    if x5 = 0 then
      if x3 ≤ 0 then
        FX11_itemMeant_246 L x3 x4 σ1
      else
        if (x3 < 0 ∨ 4 ≤ x3.toNatClampNeg) then none else
        if ((((12 : Int32) * x3) + (σ1.2.1 23 x3.toNatClampNeg)) < 0 ∨ 48 ≤ (((12 : Int32) * x3) + (σ1.2.1 23 x3.toNatClampNeg)).toNatClampNeg) then none else
        FX11_itemMeant_246 L x3 x4 (sA σ1 25 (upd (σ1.2.1 25) (((12 : Int32) * x3) + (σ1.2.1 23 x3.toNatClampNeg)).toNatClampNeg (σ1.1 17)))
    else
      some (x5, σ1)
def FX11_itemMeant_212 (L : Nat)  (x3 : Int32) (x4 : Int32) (y0 : Int32) (σ1 : MS) : Option (Int32 × MS) :=
    FX11_itemMeant_214 L x3 x4 y0 σ1
def FX11_itemMeant_182 (L : Nat)  (x3 : Int32) (x4 : Int32) (x5 : Int32) (y1 : Int32) (y2 : Int64) (σ1 : MS) : Option (Int32 × MS) :=
    if (y1 < 0 ∨ 8 ≤ y1.toNatClampNeg) then none else
    FX11_itemMeant_214 L x3 x4 x5 (sI (sB σ1 24 (vp_updL (σ1.2.2 24) y1.toNatClampNeg y2)) 7 ((σ1.1 7) + (1 : Int32)))
def FX11_itemMeant_141 (L : Nat)  (x3 : Int32) (x4 : Int32) (x5 : Int32) (x6 : Int32) (y1 : Int32) (y2 : Int32) (σ1 : MS) : Option (Int32 × MS) :=
    if ((0 : Int32) < 0 ∨ 4 ≤ (0 : Int32).toNatClampNeg) then none else
    if x6 = 0 then
      b2 (FX11_numberOf L (y1 + y2) (sI σ1 7 (y1 + y2))) fun r_37 σ_37 =>
      FX11_itemMeant_182 L x3 x4 x5 (σ1.2.1 23 (0 : Int32).toNatClampNeg) r_37.toInt64 σ_37
    else
      b2 (FX11_numberOf L (y1 + y2) (sI σ1 7 (y1 + y2))) fun r_39 σ_39 =>
      FX11_itemMeant_182 L x3 x4 x5 (σ1.2.1 23 (0 : Int32).toNatClampNeg) ((-r_39).toInt64) σ_39
def FX11_itemMeant_57 (L : Nat)  (x2 : Int32) (x3 : Int32) (y0 : Int32) (y1 : Int32) (σ1 : MS) : Option (Int32 × MS) :=
    if y0 = y1 then
      b2 (FX11_wrong (4 : Int32) x2 σ1) fun r_41 σ_41 =>
      some (r_41, σ_41)
    else
      b2 (FX11_find L ((σ1.1 7) + (1 : Int32)) (sI σ1 7 ((σ1.1 7) + (1 : Int32)))) fun r_5 σ_5 =>
      if r_5 = (-1 : Int32) then
        if x3 = 0 then
          b2 (FX11_sees L 3 (sI σ_5 7 ((σ_5.1 7) + (2 : Int32)))) fun r_33 σ_33 =>
          if r_33 = 0 then
            FX11_itemMeant_141 L x3 ((σ1.1 7) + (1 : Int32)) (0 : Int32) r_33 (σ_33.1 7) (0 : Int32) σ_33
          else
            FX11_itemMeant_141 L x3 ((σ1.1 7) + (1 : Int32)) (0 : Int32) r_33 (σ_33.1 7) (1 : Int32) σ_33
        else
          if x3 = (2 : Int32) then
            b2 (FSC2 L dSC2 6 0 0 0 (sI σ_5 7 ((σ_5.1 7) + (2 : Int32)))) fun r_32 σ_32 =>
            FX11_itemMeant_212 L x3 ((σ1.1 7) + (1 : Int32)) r_32 σ_32
          else
            b2 (FSC2 L dSC2 0 0 0 0 (sI σ_5 7 ((σ_5.1 7) + (2 : Int32)))) fun r_9 σ_9 =>
            FX11_itemMeant_212 L x3 ((σ1.1 7) + (1 : Int32)) r_9 σ_9
      else
        b2 (FX11_wrong (3 : Int32) ((σ1.1 7) + (1 : Int32)) σ_5) fun r_40 σ_40 =>
        some (r_40, σ_40)
def FX11_itemMeant (L : Nat)  (σ : MS) : Option (Int32 × MS) :=
  b2 (FX11_which L (σ.1 7) 5 σ) fun r_1 σ_1 =>
  if (r_1 < 0 ∨ 4 ≤ r_1.toNatClampNeg) then none else
  if r_1 = 0 then
    FX11_itemMeant_57 L (σ.1 7) r_1 (σ_1.2.1 23 r_1.toNatClampNeg) (8 : Int32) σ_1
  else
    FX11_itemMeant_57 L (σ.1 7) r_1 (σ_1.2.1 23 r_1.toNatClampNeg) (12 : Int32) σ_1
abbrev rmX11_itemMeant : Room := { frames := 721, cells := 1, slots := 4, locals := 28422 }
set_option maxRecDepth 100000 in
set_option maxHeartbeats 4000000 in
theorem kX11_itemMeant {l : Launch} {D : va_G} {cI cJ : ClassId} {ad : Nat → Nat} {adK adV tK : Nat → Nat} {L : Nat}  {σ σ' : MS} {r : Int32} (h : FX11_itemMeant L  σ = some (r, σ')) : gMet l yX11_itemMeant qX11_itemMeant rmX11_itemMeant 1 4 D vwCl [(cI, .int), (cJ, .long)] (mKY adK adV tK) [.ref (ad 0)] (MW cI cJ ad σ) (MW cI cJ ad σ') (some (.int r)) := by
  refine gMet.of (cc := cX11_itemMeant) (maxL := 7) (ret := (some .int)) (by decide) rfl (Nat.le_of_ble_eq_true rfl) ?_
  intro p e s m args below meth c S hr hlk hnm hK hKS hA hB ls hl
  have hl : lv_has ls 7 [(0, .ref (ad 0))] := hl
  replace S : CallFix p m c cX11_itemMeant 7 s args (_ :: wsL_law) RX11 := S
  rw [FX11_itemMeant] at h
  have P334 : ∀ (x3 : Int32) (x4 : Int32) (σ1 : MS) (H : Heap) (locs : List Loc) (ls : Array Slot), FX11_itemMeant_334 L x3 x4 σ1 = some (r, σ') → gB D vwCl (va_A (MW cI cJ ad σ) s.heap.size) s.heap (MW cI cJ ad σ1) [] H locs → lv_has ls 7 [(0, .ref (ad 0)), (3, .int x3), (4, .int x4)] → W p l e rmX11_itemMeant s m args below meth c H locs 1 4 (MQ below (gQ D vwCl (MW cI cJ ad σ) (MW cI cJ ad σ') (some (.int r)) s.heap.size) args s 1 4 (va_A (MW cI cJ ad σ) s.heap.size)) (F0 m 334 ls []) := by
    intro  x3 x4 σ1 H locs ls h hB hl
    rw [FX11_itemMeant_334] at h
    refine lv_aload_n S.1 S.2.1 dX11_itemMeant_334 rfl (lv_at hl 0 rfl) ?_
    refine mg_names S hK hB wf_X11_52 dX11_itemMeant_335 ?_
    refine lv_aload_n S.1 S.2.1 dX11_itemMeant_338 rfl (lv_at hl 0 rfl) ?_
    refine mg_named S hK hB wf_X11_284 rfl dX11_itemMeant_339 ?_
    refine lv_aload_n S.1 S.2.1 dX11_itemMeant_342 rfl (lv_at hl 0 rfl) ?_
    refine lv_iload S.1 S.2.1 dX11_itemMeant_343 (lv_at hl 2 rfl) ?_
    obtain ⟨r_15, σ_15, e_15, h⟩ := b2s h
    refine mCallL S hK mKYc hKS hA (gMet.weak (kX11_nameOf mKSc e_15) (fun _ _ q => q.1)) (cwX11_287 S.2.2.2.2 (rm := rmX11_nameOf) rfl rfl ⟨Nat.le_of_ble_eq_true rfl, Nat.le_of_ble_eq_true rfl⟩) hB rfl hl.1 rfl (lv_room (Nat.le_of_ble_eq_true rfl)) dX11_itemMeant_345 ⟨by decide, by decide⟩ (fun H locs hB => ?_)
    obtain ⟨b_16, h⟩ := gd h
    refine ms_names S hK hB b_16 dX11_itemMeant_348 (fun H locs hB => ?_)
    refine lv_aload_n S.1 S.2.1 dX11_itemMeant_349 rfl (lv_at hl 0 rfl) ?_
    refine mg_sorts S hK hB wf_X11_55 dX11_itemMeant_350 ?_
    refine lv_aload_n S.1 S.2.1 dX11_itemMeant_353 rfl (lv_at hl 0 rfl) ?_
    refine mg_named (v := (σ_15.1 19)) S hK hB wf_X11_284 rfl dX11_itemMeant_354 ?_
    refine lv_iload_n S.1 S.2.1 dX11_itemMeant_357 rfl (lv_at hl 1 rfl) ?_
    obtain ⟨b_17, h⟩ := gd h
    refine ms_sorts S hK hB b_17 dX11_itemMeant_358 (fun H locs hB => ?_)
    refine lv_aload_n S.1 S.2.1 dX11_itemMeant_359 rfl (lv_at hl 0 rfl) ?_
    refine mg_numbers S hK hB wf_X11_58 dX11_itemMeant_360 ?_
    refine lv_aload_n S.1 S.2.1 dX11_itemMeant_363 rfl (lv_at hl 0 rfl) ?_
    refine mg_named (v := (σ_15.1 19)) S hK hB wf_X11_284 rfl dX11_itemMeant_364 ?_
    refine lv_aload_n S.1 S.2.1 dX11_itemMeant_367 rfl (lv_at hl 0 rfl) ?_
    refine mg_many S hK hB wf_X11_61 dX11_itemMeant_368 ?_
    refine lv_iload_n S.1 S.2.1 dX11_itemMeant_371 rfl (lv_at hl 1 rfl) ?_
    obtain ⟨b_18, h⟩ := gd h
    refine ml_many (v := (σ_15.2.1 23 x3.toNatClampNeg)) S hK hB b_18 rfl dX11_itemMeant_372 ?_
    obtain ⟨b_19, h⟩ := gd h
    refine ms_numbers S hK hB b_19 dX11_itemMeant_373 (fun H locs hB => ?_)
    refine lv_aload_n S.1 S.2.1 dX11_itemMeant_374 rfl (lv_at hl 0 rfl) ?_
    refine lv_dup S.1 S.2.1 dX11_itemMeant_375 rfl ?_
    refine mg_named (v := (σ_15.1 19)) S hK hB wf_X11_284 rfl dX11_itemMeant_376 ?_
    refine lv_iconst (v := (1 : Int32)) S.1 S.2.1 dX11_itemMeant_379 (by decide) ?_
    refine lv_iadd S.1 S.2.1 dX11_itemMeant_380 ?_
    refine mp_named S hK hB wf_X11_284 dX11_itemMeant_381 (fun H locs hB => ?_)
    refine lv_aload_n S.1 S.2.1 dX11_itemMeant_384 rfl (lv_at hl 0 rfl) ?_
    refine mg_many S hK hB wf_X11_61 dX11_itemMeant_385 ?_
    refine lv_iload_n S.1 S.2.1 dX11_itemMeant_388 rfl (lv_at hl 1 rfl) ?_
    refine lv_dup2_11 S.1 S.2.1 dX11_itemMeant_389 rfl rfl ?_
    obtain ⟨b_20, h⟩ := gd h
    refine ml_many (v := (σ_15.2.1 23 x3.toNatClampNeg)) S hK hB b_20 rfl dX11_itemMeant_390 ?_
    refine lv_iconst (v := (1 : Int32)) S.1 S.2.1 dX11_itemMeant_391 (by decide) ?_
    refine lv_iadd S.1 S.2.1 dX11_itemMeant_392 ?_
    obtain ⟨b_21, h⟩ := gd h
    refine ms_many S hK hB b_21 dX11_itemMeant_393 (fun H locs hB => ?_)
    refine lv_iconst (v := (0 : Int32)) S.1 S.2.1 dX11_itemMeant_394 (by decide) ?_
    cases h
    exact gRetI S.1 S.2.1 hr hlk hB dX11_itemMeant_395
  have P263 : ∀ (x3 : Int32) (x4 : Int32) (σ1 : MS) (H : Heap) (locs : List Loc) (ls : Array Slot), FX11_itemMeant_263 L x3 x4 σ1 = some (r, σ') → gB D vwCl (va_A (MW cI cJ ad σ) s.heap.size) s.heap (MW cI cJ ad σ1) [] H locs → lv_has ls 7 [(0, .ref (ad 0)), (3, .int x3), (4, .int x4)] → W p l e rmX11_itemMeant s m args below meth c H locs 1 4 (MQ below (gQ D vwCl (MW cI cJ ad σ) (MW cI cJ ad σ') (some (.int r)) s.heap.size) args s 1 4 (va_A (MW cI cJ ad σ) s.heap.size)) (F0 m 263 ls []) := by
    intro  x3 x4 σ1 H locs ls h hB hl
    rw [FX11_itemMeant_263] at h
    refine lv_aload_n S.1 S.2.1 dX11_itemMeant_263 rfl (lv_at hl 0 rfl) ?_
    refine va_ldcS S.1 S.2.1 S.2.2.2.1 (hKS.1.2.1 (RX11, 202, "level", 10) (List.mem_of_getElem? (i := 10) rfl)) dX11_itemMeant_264 ?_
    obtain ⟨r_13, σ_13, e_13, h⟩ := b2s h
    refine mCallI S hK mKYc hKS hA (gMet.weak (kX11_sees e_13) (fun _ _ q => q.1)) (cwX11_155 S.2.2.2.2 (rm := rmX11_sees) rfl rfl ⟨Nat.le_of_ble_eq_true rfl, Nat.le_of_ble_eq_true rfl⟩) hB rfl hl.1 rfl (lv_room (Nat.le_of_ble_eq_true rfl)) dX11_itemMeant_266 ⟨by decide, by decide⟩ (fun H locs hB => ?_)
    refine lv_if_eq (tgt := 334) S.1 S.2.1 dX11_itemMeant_269 (by decide) (fun c_14 => ?_) (fun c_14 => ?_)
    · replace h := (if_pos c_14).symm.trans h
      exact P334  _ _ _ _ _ _ h hB hl
    · replace h := (if_neg c_14).symm.trans h
      refine lv_aload_n S.1 S.2.1 dX11_itemMeant_272 rfl (lv_at hl 0 rfl) ?_
      refine lv_dup S.1 S.2.1 dX11_itemMeant_273 rfl ?_
      refine mg_at S hK hB wf_X11_152 rfl dX11_itemMeant_274 ?_
      refine lv_iconst (v := (1 : Int32)) S.1 S.2.1 dX11_itemMeant_277 (by decide) ?_
      refine lv_iadd S.1 S.2.1 dX11_itemMeant_278 ?_
      refine mp_at S hK hB wf_X11_152 dX11_itemMeant_279 (fun H locs hB => ?_)
      refine lv_aload_n S.1 S.2.1 dX11_itemMeant_282 rfl (lv_at hl 0 rfl) ?_
      refine lv_aload_n S.1 S.2.1 dX11_itemMeant_283 rfl (lv_at hl 0 rfl) ?_
      refine mg_at (v := ((σ_13.1 7) + (1 : Int32))) S hK hB wf_X11_152 rfl dX11_itemMeant_284 ?_
      obtain ⟨r_22, σ_22, e_22, h⟩ := b2s h
      refine mCallI S hK mKYc hKS hA (gMet.weak (kX11_numberOf mKSc e_22) (fun _ _ q => q.1)) (cwX11_300 S.2.2.2.2 (rm := rmX11_numberOf) rfl rfl ⟨Nat.le_of_ble_eq_true rfl, Nat.le_of_ble_eq_true rfl⟩) hB rfl hl.1 rfl (lv_room (Nat.le_of_ble_eq_true rfl)) dX11_itemMeant_287 ⟨by decide, by decide⟩ (fun H locs hB => ?_)
      refine lv_bipush (v := (9 : Int32)) S.1 S.2.1 dX11_itemMeant_290 (by decide) ?_
      refine lv_icmp_le (tgt := 305) S.1 S.2.1 dX11_itemMeant_292 (by decide) (fun c_23 => ?_) (fun c_23 => ?_)
      · replace h := (if_pos c_23).symm.trans h
        refine lv_aload_n S.1 S.2.1 dX11_itemMeant_305 rfl (lv_at hl 0 rfl) ?_
        refine mg_levels S hK hB wf_X11_70 dX11_itemMeant_306 ?_
        refine lv_aload_n S.1 S.2.1 dX11_itemMeant_309 rfl (lv_at hl 0 rfl) ?_
        refine mg_many S hK hB wf_X11_61 dX11_itemMeant_310 ?_
        refine lv_iconst (v := (3 : Int32)) S.1 S.2.1 dX11_itemMeant_313 (by decide) ?_
        obtain ⟨b_24, h⟩ := gd h
        refine ml_many (v := (σ_22.2.1 23 (3 : Int32).toNatClampNeg)) S hK hB b_24 rfl dX11_itemMeant_314 ?_
        refine lv_aload_n S.1 S.2.1 dX11_itemMeant_315 rfl (lv_at hl 0 rfl) ?_
        refine lv_aload_n S.1 S.2.1 dX11_itemMeant_316 rfl (lv_at hl 0 rfl) ?_
        refine mg_at S hK hB wf_X11_152 rfl dX11_itemMeant_317 ?_
        obtain ⟨r_25, σ_25, e_25, h⟩ := b2s h
        refine mCallI S hK mKYc hKS hA (gMet.weak (kX11_numberOf mKSc e_25) (fun _ _ q => q.1)) (cwX11_300 S.2.2.2.2 (rm := rmX11_numberOf) rfl rfl ⟨Nat.le_of_ble_eq_true rfl, Nat.le_of_ble_eq_true rfl⟩) hB rfl hl.1 rfl (lv_room (Nat.le_of_ble_eq_true rfl)) dX11_itemMeant_320 ⟨by decide, by decide⟩ (fun H locs hB => ?_)
        obtain ⟨b_26, h⟩ := gd h
        refine ms_levels S hK hB b_26 dX11_itemMeant_323 (fun H locs hB => ?_)
        refine lv_aload_n S.1 S.2.1 dX11_itemMeant_324 rfl (lv_at hl 0 rfl) ?_
        refine lv_dup S.1 S.2.1 dX11_itemMeant_325 rfl ?_
        refine mg_at (v := (σ_25.1 7)) S hK hB wf_X11_152 rfl dX11_itemMeant_326 ?_
        refine lv_iconst (v := (1 : Int32)) S.1 S.2.1 dX11_itemMeant_329 (by decide) ?_
        refine lv_iadd S.1 S.2.1 dX11_itemMeant_330 ?_
        refine mp_at S hK hB wf_X11_152 dX11_itemMeant_331 (fun H locs hB => ?_)
        exact P334  _ _ _ _ _ _ h hB hl
      · replace h := (if_neg c_23).symm.trans h
        refine lv_aload_n S.1 S.2.1 dX11_itemMeant_295 rfl (lv_at hl 0 rfl) ?_
        refine lv_iconst (v := (5 : Int32)) S.1 S.2.1 dX11_itemMeant_296 (by decide) ?_
        refine lv_aload_n S.1 S.2.1 dX11_itemMeant_297 rfl (lv_at hl 0 rfl) ?_
        refine mg_at S hK hB wf_X11_152 rfl dX11_itemMeant_298 ?_
        obtain ⟨r_27, σ_27, e_27, h⟩ := b2s h
        refine mCallI S hK mKYc hKS hA (gMet.weak (kX11_wrong mKSc e_27) (fun _ _ q => q.1)) (cwX11_294 S.2.2.2.2 (rm := rmX11_wrong) rfl rfl ⟨Nat.le_of_ble_eq_true rfl, Nat.le_of_ble_eq_true rfl⟩) hB rfl hl.1 rfl (lv_room (Nat.le_of_ble_eq_true rfl)) dX11_itemMeant_301 ⟨by decide, by decide⟩ (fun H locs hB => ?_)
        cases h
        exact gRetI S.1 S.2.1 hr hlk hB dX11_itemMeant_304
  have P246 : ∀ (x3 : Int32) (x4 : Int32) (σ1 : MS) (H : Heap) (locs : List Loc) (ls : Array Slot), FX11_itemMeant_246 L x3 x4 σ1 = some (r, σ') → gB D vwCl (va_A (MW cI cJ ad σ) s.heap.size) s.heap (MW cI cJ ad σ1) [] H locs → lv_has ls 7 [(0, .ref (ad 0)), (3, .int x3), (4, .int x4)] → W p l e rmX11_itemMeant s m args below meth c H locs 1 4 (MQ below (gQ D vwCl (MW cI cJ ad σ) (MW cI cJ ad σ') (some (.int r)) s.heap.size) args s 1 4 (va_A (MW cI cJ ad σ) s.heap.size)) (F0 m 246 ls []) := by
    intro  x3 x4 σ1 H locs ls h hB hl
    rw [FX11_itemMeant_246] at h
    refine lv_iload_n S.1 S.2.1 dX11_itemMeant_246 rfl (lv_at hl 1 rfl) ?_
    refine lv_iconst (v := (3 : Int32)) S.1 S.2.1 dX11_itemMeant_247 (by decide) ?_
    refine lv_icmp_ne (tgt := 263) S.1 S.2.1 dX11_itemMeant_248 (by decide) (fun c_12 => ?_) (fun c_12 => ?_)
    · replace h := (if_neg c_12).symm.trans h
      exact P263  _ _ _ _ _ _ h hB hl
    · replace h := (if_pos c_12).symm.trans h
      refine lv_aload_n S.1 S.2.1 dX11_itemMeant_251 rfl (lv_at hl 0 rfl) ?_
      refine mg_levels S hK hB wf_X11_70 dX11_itemMeant_252 ?_
      refine lv_aload_n S.1 S.2.1 dX11_itemMeant_255 rfl (lv_at hl 0 rfl) ?_
      refine mg_many S hK hB wf_X11_61 dX11_itemMeant_256 ?_
      refine lv_iconst (v := (3 : Int32)) S.1 S.2.1 dX11_itemMeant_259 (by decide) ?_
      obtain ⟨b_28, h⟩ := gd h
      refine ml_many (v := (σ1.2.1 23 (3 : Int32).toNatClampNeg)) S hK hB b_28 rfl dX11_itemMeant_260 ?_
      refine lv_iconst (v := (5 : Int32)) S.1 S.2.1 dX11_itemMeant_261 (by decide) ?_
      obtain ⟨b_29, h⟩ := gd h
      refine ms_levels S hK hB b_29 dX11_itemMeant_262 (fun H locs hB => ?_)
      exact P263  _ _ _ _ _ _ h hB hl
  have P214 : ∀ (x3 : Int32) (x4 : Int32) (x5 : Int32) (σ1 : MS) (H : Heap) (locs : List Loc) (ls : Array Slot), FX11_itemMeant_214 L x3 x4 x5 σ1 = some (r, σ') → gB D vwCl (va_A (MW cI cJ ad σ) s.heap.size) s.heap (MW cI cJ ad σ1) [] H locs → lv_has ls 7 [(0, .ref (ad 0)), (3, .int x3), (4, .int x4), (5, .int x5)] → W p l e rmX11_itemMeant s m args below meth c H locs 1 4 (MQ below (gQ D vwCl (MW cI cJ ad σ) (MW cI cJ ad σ') (some (.int r)) s.heap.size) args s 1 4 (va_A (MW cI cJ ad σ) s.heap.size)) (F0 m 214 ls []) := by
    intro  x3 x4 x5 σ1 H locs ls h hB hl
    rw [FX11_itemMeant_214] at h
    refine lv_iload S.1 S.2.1 dX11_itemMeant_214 (lv_at hl 3 rfl) ?_
    refine lv_if_eq (tgt := 222) S.1 S.2.1 dX11_itemMeant_216 (by decide) (fun c_10 => ?_) (fun c_10 => ?_)
    · replace h := (if_pos c_10).symm.trans h
      refine lv_iload_n S.1 S.2.1 dX11_itemMeant_222 rfl (lv_at hl 1 rfl) ?_
      refine lv_if_le (tgt := 246) S.1 S.2.1 dX11_itemMeant_223 (by decide) (fun c_11 => ?_) (fun c_11 => ?_)
      · replace h := (if_pos c_11).symm.trans h
        exact P246  _ _ _ _ _ _ h hB (lv_sub hl [0, 1, 2] rfl)
      · replace h := (if_neg c_11).symm.trans h
        refine lv_aload_n S.1 S.2.1 dX11_itemMeant_226 rfl (lv_at hl 0 rfl) ?_
        refine mg_tops S hK hB wf_X11_67 dX11_itemMeant_227 ?_
        refine lv_bipush (v := (12 : Int32)) S.1 S.2.1 dX11_itemMeant_230 (by decide) ?_
        refine lv_iload_n S.1 S.2.1 dX11_itemMeant_232 rfl (lv_at hl 1 rfl) ?_
        refine lv_imul S.1 S.2.1 dX11_itemMeant_233 ?_
        refine lv_aload_n S.1 S.2.1 dX11_itemMeant_234 rfl (lv_at hl 0 rfl) ?_
        refine mg_many S hK hB wf_X11_61 dX11_itemMeant_235 ?_
        refine lv_iload_n S.1 S.2.1 dX11_itemMeant_238 rfl (lv_at hl 1 rfl) ?_
        obtain ⟨b_30, h⟩ := gd h
        refine ml_many (v := (σ1.2.1 23 x3.toNatClampNeg)) S hK hB b_30 rfl dX11_itemMeant_239 ?_
        refine lv_iadd S.1 S.2.1 dX11_itemMeant_240 ?_
        refine lv_aload_n S.1 S.2.1 dX11_itemMeant_241 rfl (lv_at hl 0 rfl) ?_
        refine mg_made S hK hB wf_X11_309 rfl dX11_itemMeant_242 ?_
        obtain ⟨b_31, h⟩ := gd h
        refine ms_tops S hK hB b_31 dX11_itemMeant_245 (fun H locs hB => ?_)
        exact P246  _ _ _ _ _ _ h hB (lv_sub hl [0, 1, 2] rfl)
    · replace h := (if_neg c_10).symm.trans h
      refine lv_iload S.1 S.2.1 dX11_itemMeant_219 (lv_at hl 3 rfl) ?_
      cases h
      exact gRetI S.1 S.2.1 hr hlk hB dX11_itemMeant_221
  have P212 : ∀ (x3 : Int32) (x4 : Int32) (y0 : Int32) (σ1 : MS) (H : Heap) (locs : List Loc) (ls : Array Slot), FX11_itemMeant_212 L x3 x4 y0 σ1 = some (r, σ') → gB D vwCl (va_A (MW cI cJ ad σ) s.heap.size) s.heap (MW cI cJ ad σ1) [] H locs → lv_has ls 7 [(0, .ref (ad 0)), (3, .int x3), (4, .int x4)] → W p l e rmX11_itemMeant s m args below meth c H locs 1 4 (MQ below (gQ D vwCl (MW cI cJ ad σ) (MW cI cJ ad σ') (some (.int r)) s.heap.size) args s 1 4 (va_A (MW cI cJ ad σ) s.heap.size)) (F0 m 212 ls [.int y0]) := by
    intro  x3 x4 y0 σ1 H locs ls h hB hl
    rw [FX11_itemMeant_212] at h
    refine lv_istore (lv' := [(5, .int y0), (0, .ref (ad 0)), (3, .int x3), (4, .int x4)]) S.1 S.2.1 dX11_itemMeant_212 hl (by decide) rfl (fun ls hl => ?_)
    exact P214  _ _ _ _ _ _ _ h hB (lv_sub hl [1, 2, 3, 0] rfl)
  have P182 : ∀ (x3 : Int32) (x4 : Int32) (x5 : Int32) (y1 : Int32) (y2 : Int64) (σ1 : MS) (H : Heap) (locs : List Loc) (ls : Array Slot), FX11_itemMeant_182 L x3 x4 x5 y1 y2 σ1 = some (r, σ') → gB D vwCl (va_A (MW cI cJ ad σ) s.heap.size) s.heap (MW cI cJ ad σ1) [] H locs → lv_has ls 7 [(0, .ref (ad 0)), (3, .int x3), (4, .int x4), (5, .int x5)] → W p l e rmX11_itemMeant s m args below meth c H locs 1 4 (MQ below (gQ D vwCl (MW cI cJ ad σ) (MW cI cJ ad σ') (some (.int r)) s.heap.size) args s 1 4 (va_A (MW cI cJ ad σ) s.heap.size)) (F0 m 182 ls [.long y2, .int y1, .ref (ad 24)]) := by
    intro  x3 x4 x5 y1 y2 σ1 H locs ls h hB hl
    rw [FX11_itemMeant_182] at h
    obtain ⟨b_38, h⟩ := gd h
    refine ms_begins S hK hB b_38 dX11_itemMeant_182 (fun H locs hB => ?_)
    refine lv_aload_n S.1 S.2.1 dX11_itemMeant_183 rfl (lv_at hl 0 rfl) ?_
    refine lv_dup S.1 S.2.1 dX11_itemMeant_184 rfl ?_
    refine mg_at (v := (σ1.1 7)) S hK hB wf_X11_152 rfl dX11_itemMeant_185 ?_
    refine lv_iconst (v := (1 : Int32)) S.1 S.2.1 dX11_itemMeant_188 (by decide) ?_
    refine lv_iadd S.1 S.2.1 dX11_itemMeant_189 ?_
    refine mp_at S hK hB wf_X11_152 dX11_itemMeant_190 (fun H locs hB => ?_)
    refine lv_goto (tgt := 214) S.1 S.2.1 dX11_itemMeant_193 (by decide) ?_
    exact P214  _ _ _ _ _ _ _ h hB hl
  have P141 : ∀ (x3 : Int32) (x4 : Int32) (x5 : Int32) (x6 : Int32) (y1 : Int32) (y2 : Int32) (σ1 : MS) (H : Heap) (locs : List Loc) (ls : Array Slot), FX11_itemMeant_141 L x3 x4 x5 x6 y1 y2 σ1 = some (r, σ') → gB D vwCl (va_A (MW cI cJ ad σ) s.heap.size) s.heap (MW cI cJ ad σ1) [] H locs → lv_has ls 7 [(0, .ref (ad 0)), (3, .int x3), (4, .int x4), (5, .int x5), (6, .int x6)] → W p l e rmX11_itemMeant s m args below meth c H locs 1 4 (MQ below (gQ D vwCl (MW cI cJ ad σ) (MW cI cJ ad σ') (some (.int r)) s.heap.size) args s 1 4 (va_A (MW cI cJ ad σ) s.heap.size)) (F0 m 141 ls [.int y2, .int y1, .ref (ad 0)]) := by
    intro  x3 x4 x5 x6 y1 y2 σ1 H locs ls h hB hl
    rw [FX11_itemMeant_141] at h
    refine lv_iadd S.1 S.2.1 dX11_itemMeant_141 ?_
    refine mp_at S hK hB wf_X11_152 dX11_itemMeant_142 (fun H locs hB => ?_)
    refine lv_aload_n S.1 S.2.1 dX11_itemMeant_145 rfl (lv_at hl 0 rfl) ?_
    refine mg_begins S hK hB wf_X11_64 dX11_itemMeant_146 ?_
    refine lv_aload_n S.1 S.2.1 dX11_itemMeant_149 rfl (lv_at hl 0 rfl) ?_
    refine mg_many S hK hB wf_X11_61 dX11_itemMeant_150 ?_
    refine lv_iconst (v := (0 : Int32)) S.1 S.2.1 dX11_itemMeant_153 (by decide) ?_
    obtain ⟨b_35, h⟩ := gd h
    refine ml_many (v := (σ1.2.1 23 (0 : Int32).toNatClampNeg)) S hK hB b_35 rfl dX11_itemMeant_154 ?_
    refine lv_iload S.1 S.2.1 dX11_itemMeant_155 (lv_at hl 4 rfl) ?_
    refine lv_if_eq (tgt := 173) S.1 S.2.1 dX11_itemMeant_157 (by decide) (fun c_36 => ?_) (fun c_36 => ?_)
    · replace h := (if_pos c_36).symm.trans h
      refine lv_aload_n S.1 S.2.1 dX11_itemMeant_173 rfl (lv_at hl 0 rfl) ?_
      refine lv_aload_n S.1 S.2.1 dX11_itemMeant_174 rfl (lv_at hl 0 rfl) ?_
      refine mg_at (v := (y1 + y2)) S hK hB wf_X11_152 rfl dX11_itemMeant_175 ?_
      obtain ⟨r_37, σ_37, e_37, h⟩ := b2s h
      refine mCallI S hK mKYc hKS hA (gMet.weak (kX11_numberOf mKSc e_37) (fun _ _ q => q.1)) (cwX11_300 S.2.2.2.2 (rm := rmX11_numberOf) rfl rfl ⟨Nat.le_of_ble_eq_true rfl, Nat.le_of_ble_eq_true rfl⟩) hB rfl hl.1 rfl (lv_room (Nat.le_of_ble_eq_true rfl)) dX11_itemMeant_178 ⟨by decide, by decide⟩ (fun H locs hB => ?_)
      refine lv_i2l (v := r_37.toInt64) S.1 S.2.1 dX11_itemMeant_181 rfl ?_
      exact P182  _ _ _ _ _ _ _ _ _ h hB (lv_sub hl [0, 1, 2, 3] rfl)
    · replace h := (if_neg c_36).symm.trans h
      refine lv_aload_n S.1 S.2.1 dX11_itemMeant_160 rfl (lv_at hl 0 rfl) ?_
      refine lv_aload_n S.1 S.2.1 dX11_itemMeant_161 rfl (lv_at hl 0 rfl) ?_
      refine mg_at (v := (y1 + y2)) S hK hB wf_X11_152 rfl dX11_itemMeant_162 ?_
      obtain ⟨r_39, σ_39, e_39, h⟩ := b2s h
      refine mCallI S hK mKYc hKS hA (gMet.weak (kX11_numberOf mKSc e_39) (fun _ _ q => q.1)) (cwX11_300 S.2.2.2.2 (rm := rmX11_numberOf) rfl rfl ⟨Nat.le_of_ble_eq_true rfl, Nat.le_of_ble_eq_true rfl⟩) hB rfl hl.1 rfl (lv_room (Nat.le_of_ble_eq_true rfl)) dX11_itemMeant_165 ⟨by decide, by decide⟩ (fun H locs hB => ?_)
      refine lv_ineg S.1 S.2.1 dX11_itemMeant_168 ?_
      refine lv_i2l (v := ((-r_39).toInt64)) S.1 S.2.1 dX11_itemMeant_169 rfl ?_
      refine lv_goto (tgt := 182) S.1 S.2.1 dX11_itemMeant_170 (by decide) ?_
      exact P182  _ _ _ _ _ _ _ _ _ h hB (lv_sub hl [0, 1, 2, 3] rfl)
  have P57 : ∀ (x2 : Int32) (x3 : Int32) (y0 : Int32) (y1 : Int32) (σ1 : MS) (H : Heap) (locs : List Loc) (ls : Array Slot), FX11_itemMeant_57 L x2 x3 y0 y1 σ1 = some (r, σ') → gB D vwCl (va_A (MW cI cJ ad σ) s.heap.size) s.heap (MW cI cJ ad σ1) [] H locs → lv_has ls 7 [(0, .ref (ad 0)), (2, .int x2), (3, .int x3)] → W p l e rmX11_itemMeant s m args below meth c H locs 1 4 (MQ below (gQ D vwCl (MW cI cJ ad σ) (MW cI cJ ad σ') (some (.int r)) s.heap.size) args s 1 4 (va_A (MW cI cJ ad σ) s.heap.size)) (F0 m 57 ls [.int y1, .int y0]) := by
    intro  x2 x3 y0 y1 σ1 H locs ls h hB hl
    rw [FX11_itemMeant_57] at h
    refine lv_icmp_ne (tgt := 67) S.1 S.2.1 dX11_itemMeant_57 (by decide) (fun c_4 => ?_) (fun c_4 => ?_)
    · replace h := (if_neg c_4).symm.trans h
      refine lv_aload_n S.1 S.2.1 dX11_itemMeant_67 rfl (lv_at hl 0 rfl) ?_
      refine lv_dup S.1 S.2.1 dX11_itemMeant_68 rfl ?_
      refine mg_at S hK hB wf_X11_152 rfl dX11_itemMeant_69 ?_
      refine lv_iconst (v := (1 : Int32)) S.1 S.2.1 dX11_itemMeant_72 (by decide) ?_
      refine lv_iadd S.1 S.2.1 dX11_itemMeant_73 ?_
      refine mp_at S hK hB wf_X11_152 dX11_itemMeant_74 (fun H locs hB => ?_)
      refine lv_aload_n S.1 S.2.1 dX11_itemMeant_77 rfl (lv_at hl 0 rfl) ?_
      refine mg_at (v := ((σ1.1 7) + (1 : Int32))) S hK hB wf_X11_152 rfl dX11_itemMeant_78 ?_
      refine lv_istore (lv' := [(4, .int ((σ1.1 7) + (1 : Int32))), (0, .ref (ad 0)), (2, .int x2), (3, .int x3)]) S.1 S.2.1 dX11_itemMeant_81 hl (by decide) rfl (fun ls hl => ?_)
      refine lv_aload_n S.1 S.2.1 dX11_itemMeant_83 rfl (lv_at hl 1 rfl) ?_
      refine lv_iload S.1 S.2.1 dX11_itemMeant_84 (lv_at hl 0 rfl) ?_
      obtain ⟨r_5, σ_5, e_5, h⟩ := b2s h
      refine mCallI S hK mKYc hKS hA (gMet.weak (kX11_find mKSc e_5) (fun _ _ q => q.1)) (cwX11_297 S.2.2.2.2 (rm := rmX11_find) rfl rfl ⟨Nat.le_of_ble_eq_true rfl, Nat.le_of_ble_eq_true rfl⟩) hB rfl hl.1 rfl (lv_room (Nat.le_of_ble_eq_true rfl)) dX11_itemMeant_86 ⟨by decide, by decide⟩ (fun H locs hB => ?_)
      refine lv_iconst (v := (-1 : Int32)) S.1 S.2.1 dX11_itemMeant_89 (by decide) ?_
      refine lv_icmp_eq (tgt := 101) S.1 S.2.1 dX11_itemMeant_90 (by decide) (fun c_6 => ?_) (fun c_6 => ?_)
      · replace h := (if_pos c_6).symm.trans h
        refine lv_aload_n S.1 S.2.1 dX11_itemMeant_101 rfl (lv_at hl 1 rfl) ?_
        refine lv_dup S.1 S.2.1 dX11_itemMeant_102 rfl ?_
        refine mg_at S hK hB wf_X11_152 rfl dX11_itemMeant_103 ?_
        refine lv_iconst (v := (2 : Int32)) S.1 S.2.1 dX11_itemMeant_106 (by decide) ?_
        refine lv_iadd S.1 S.2.1 dX11_itemMeant_107 ?_
        refine mp_at S hK hB wf_X11_152 dX11_itemMeant_108 (fun H locs hB => ?_)
        refine lv_iconst (v := (0 : Int32)) S.1 S.2.1 dX11_itemMeant_111 (by decide) ?_
        refine lv_istore (lv' := [(5, .int (0 : Int32)), (4, .int ((σ1.1 7) + (1 : Int32))), (0, .ref (ad 0)), (2, .int x2), (3, .int x3)]) S.1 S.2.1 dX11_itemMeant_112 hl (by decide) rfl (fun ls hl => ?_)
        refine lv_iload_n S.1 S.2.1 dX11_itemMeant_114 rfl (lv_at hl 4 rfl) ?_
        refine lv_if_ne (tgt := 196) S.1 S.2.1 dX11_itemMeant_115 (by decide) (fun c_7 => ?_) (fun c_7 => ?_)
        · replace h := (if_neg c_7).symm.trans h
          refine lv_iload_n S.1 S.2.1 dX11_itemMeant_196 rfl (lv_at hl 4 rfl) ?_
          refine lv_iconst (v := (2 : Int32)) S.1 S.2.1 dX11_itemMeant_197 (by decide) ?_
          refine lv_icmp_ne (tgt := 208) S.1 S.2.1 dX11_itemMeant_198 (by decide) (fun c_8 => ?_) (fun c_8 => ?_)
          · replace h := (if_neg c_8).symm.trans h
            refine lv_aload_n S.1 S.2.1 dX11_itemMeant_208 rfl (lv_at hl 2 rfl) ?_
            obtain ⟨r_9, σ_9, e_9, h⟩ := b2s h
            refine mCallI S hK mKYc hKS hA (gMet.weak (tSC2_formula e_9) (fun _ _ q => q.1)) (cwX11_306 S.2.2.2.2 (rm := rtSC2) rfl rfl ⟨Nat.le_of_ble_eq_true rfl, Nat.le_of_ble_eq_true rfl⟩) hB rfl hl.1 rfl (lv_room (Nat.le_of_ble_eq_true rfl)) dX11_itemMeant_209 ⟨by decide, by decide⟩ (fun H locs hB => ?_)
            exact P212  _ _ _ _ _ _ _ h hB (lv_sub hl [2, 4, 1] rfl)
          · replace h := (if_pos c_8).symm.trans h
            refine lv_aload_n S.1 S.2.1 dX11_itemMeant_201 rfl (lv_at hl 2 rfl) ?_
            obtain ⟨r_32, σ_32, e_32, h⟩ := b2s h
            refine mCallI S hK mKYc hKS hA (gMet.weak (tSC2_expression e_32) (fun _ _ q => q.1)) (cwX11_303 S.2.2.2.2 (rm := rtSC2) rfl rfl ⟨Nat.le_of_ble_eq_true rfl, Nat.le_of_ble_eq_true rfl⟩) hB rfl hl.1 rfl (lv_room (Nat.le_of_ble_eq_true rfl)) dX11_itemMeant_202 ⟨by decide, by decide⟩ (fun H locs hB => ?_)
            refine lv_goto (tgt := 212) S.1 S.2.1 dX11_itemMeant_205 (by decide) ?_
            exact P212  _ _ _ _ _ _ _ h hB (lv_sub hl [2, 4, 1] rfl)
        · replace h := (if_pos c_7).symm.trans h
          refine lv_aload_n S.1 S.2.1 dX11_itemMeant_118 rfl (lv_at hl 2 rfl) ?_
          refine va_ldcS S.1 S.2.1 S.2.2.2.1 (hKS.1.2.1 (RX11, 179, "-", 3) (List.mem_of_getElem? (i := 3) rfl)) dX11_itemMeant_119 ?_
          obtain ⟨r_33, σ_33, e_33, h⟩ := b2s h
          refine mCallI S hK mKYc hKS hA (gMet.weak (kX11_sees e_33) (fun _ _ q => q.1)) (cwX11_155 S.2.2.2.2 (rm := rmX11_sees) rfl rfl ⟨Nat.le_of_ble_eq_true rfl, Nat.le_of_ble_eq_true rfl⟩) hB rfl hl.1 rfl (lv_room (Nat.le_of_ble_eq_true rfl)) dX11_itemMeant_121 ⟨by decide, by decide⟩ (fun H locs hB => ?_)
          refine lv_istore (lv' := [(6, .int r_33), (5, .int (0 : Int32)), (4, .int ((σ1.1 7) + (1 : Int32))), (0, .ref (ad 0)), (2, .int x2), (3, .int x3)]) S.1 S.2.1 dX11_itemMeant_124 hl (by decide) rfl (fun ls hl => ?_)
          refine lv_aload_n S.1 S.2.1 dX11_itemMeant_126 rfl (lv_at hl 3 rfl) ?_
          refine lv_dup S.1 S.2.1 dX11_itemMeant_127 rfl ?_
          refine mg_at S hK hB wf_X11_152 rfl dX11_itemMeant_128 ?_
          refine lv_iload S.1 S.2.1 dX11_itemMeant_131 (lv_at hl 0 rfl) ?_
          refine lv_if_eq (tgt := 140) S.1 S.2.1 dX11_itemMeant_133 (by decide) (fun c_34 => ?_) (fun c_34 => ?_)
          · replace h := (if_pos c_34).symm.trans h
            refine lv_iconst (v := (0 : Int32)) S.1 S.2.1 dX11_itemMeant_140 (by decide) ?_
            exact P141  _ _ _ _ _ _ _ _ _ _ h hB (lv_sub hl [3, 5, 2, 1, 0] rfl)
          · replace h := (if_neg c_34).symm.trans h
            refine lv_iconst (v := (1 : Int32)) S.1 S.2.1 dX11_itemMeant_136 (by decide) ?_
            refine lv_goto (tgt := 141) S.1 S.2.1 dX11_itemMeant_137 (by decide) ?_
            exact P141  _ _ _ _ _ _ _ _ _ _ h hB (lv_sub hl [3, 5, 2, 1, 0] rfl)
      · replace h := (if_neg c_6).symm.trans h
        refine lv_aload_n S.1 S.2.1 dX11_itemMeant_93 rfl (lv_at hl 1 rfl) ?_
        refine lv_iconst (v := (3 : Int32)) S.1 S.2.1 dX11_itemMeant_94 (by decide) ?_
        refine lv_iload S.1 S.2.1 dX11_itemMeant_95 (lv_at hl 0 rfl) ?_
        obtain ⟨r_40, σ_40, e_40, h⟩ := b2s h
        refine mCallI S hK mKYc hKS hA (gMet.weak (kX11_wrong mKSc e_40) (fun _ _ q => q.1)) (cwX11_294 S.2.2.2.2 (rm := rmX11_wrong) rfl rfl ⟨Nat.le_of_ble_eq_true rfl, Nat.le_of_ble_eq_true rfl⟩) hB rfl hl.1 rfl (lv_room (Nat.le_of_ble_eq_true rfl)) dX11_itemMeant_97 ⟨by decide, by decide⟩ (fun H locs hB => ?_)
        cases h
        exact gRetI S.1 S.2.1 hr hlk hB dX11_itemMeant_100
    · replace h := (if_pos c_4).symm.trans h
      refine lv_aload_n S.1 S.2.1 dX11_itemMeant_60 rfl (lv_at hl 0 rfl) ?_
      refine lv_iconst (v := (4 : Int32)) S.1 S.2.1 dX11_itemMeant_61 (by decide) ?_
      refine lv_iload_n S.1 S.2.1 dX11_itemMeant_62 rfl (lv_at hl 1 rfl) ?_
      obtain ⟨r_41, σ_41, e_41, h⟩ := b2s h
      refine mCallI S hK mKYc hKS hA (gMet.weak (kX11_wrong mKSc e_41) (fun _ _ q => q.1)) (cwX11_294 S.2.2.2.2 (rm := rmX11_wrong) rfl rfl ⟨Nat.le_of_ble_eq_true rfl, Nat.le_of_ble_eq_true rfl⟩) hB rfl hl.1 rfl (lv_room (Nat.le_of_ble_eq_true rfl)) dX11_itemMeant_63 ⟨by decide, by decide⟩ (fun H locs hB => ?_)
      cases h
      exact gRetI S.1 S.2.1 hr hlk hB dX11_itemMeant_66
  refine lv_iconst (v := (4 : Int32)) S.1 S.2.1 dX11_itemMeant_0 (by decide) ?_
  refine mNewS S hK hB hA hKS.2 (by decide) wl_X11_111 dX11_itemMeant_1 (fun q cA H hK3 hB => ?_)
  refine lv_dup S.1 S.2.1 dX11_itemMeant_4 rfl ?_
  refine lv_iconst (v := (0 : Int32)) S.1 S.2.1 dX11_itemMeant_5 (by decide) ?_
  refine va_ldcS S.1 S.2.1 S.2.2.2.1 (hKS.1.2.1 (RX11, 169, "signal", 1) (List.mem_of_getElem? (i := 1) rfl)) dX11_itemMeant_6 ?_
  refine mAstS S hK3 hB (va_AnyS (vk_recv hKS.1.1 (by decide) hB.2.2)) (by unfold vp_in; decide) dX11_itemMeant_8 (fun H locs hB => ?_)
  refine lv_dup S.1 S.2.1 dX11_itemMeant_9 rfl ?_
  refine lv_iconst (v := (1 : Int32)) S.1 S.2.1 dX11_itemMeant_10 (by decide) ?_
  refine va_ldcS S.1 S.2.1 S.2.2.2.1 (hKS.1.2.1 (RX11, 186, "let", 5) (List.mem_of_getElem? (i := 5) rfl)) dX11_itemMeant_11 ?_
  refine mAstS S hK3 hB (va_AnyS (vk_recv hKS.1.1 (by decide) hB.2.2)) (by unfold vp_in; decide) dX11_itemMeant_13 (fun H locs hB => ?_)
  refine lv_dup S.1 S.2.1 dX11_itemMeant_14 rfl ?_
  refine lv_iconst (v := (2 : Int32)) S.1 S.2.1 dX11_itemMeant_15 (by decide) ?_
  refine va_ldcS S.1 S.2.1 S.2.2.2.1 (hKS.1.2.1 (RX11, 193, "value", 7) (List.mem_of_getElem? (i := 7) rfl)) dX11_itemMeant_16 ?_
  refine mAstS S hK3 hB (va_AnyS (vk_recv hKS.1.1 (by decide) hB.2.2)) (by unfold vp_in; decide) dX11_itemMeant_18 (fun H locs hB => ?_)
  refine lv_dup S.1 S.2.1 dX11_itemMeant_19 rfl ?_
  refine lv_iconst (v := (3 : Int32)) S.1 S.2.1 dX11_itemMeant_20 (by decide) ?_
  refine va_ldcS S.1 S.2.1 S.2.2.2.1 (hKS.1.2.1 (RX11, 198, "watch", 8) (List.mem_of_getElem? (i := 8) rfl)) dX11_itemMeant_21 ?_
  refine mAstS S hK3 hB (va_AnyS (vk_recv hKS.1.1 (by decide) hB.2.2)) (by unfold vp_in; decide) dX11_itemMeant_23 (fun H locs hB => ?_)
  refine lv_astore_n (lv' := [(1, .ref q), (0, .ref (ad 0))]) S.1 S.2.1 dX11_itemMeant_24 rfl hl (by decide) rfl (fun ls hl => ?_)
  refine lv_aload_n S.1 S.2.1 dX11_itemMeant_25 rfl (lv_at hl 1 rfl) ?_
  refine mg_at S hK hB wf_X11_152 rfl dX11_itemMeant_26 ?_
  refine lv_istore_n (lv' := [(2, .int (σ.1 7)), (1, .ref q), (0, .ref (ad 0))]) S.1 S.2.1 dX11_itemMeant_29 rfl hl (by decide) rfl (fun ls hl => ?_)
  refine lv_aload_n S.1 S.2.1 dX11_itemMeant_30 rfl (lv_at hl 2 rfl) ?_
  refine lv_aload_n S.1 S.2.1 dX11_itemMeant_31 rfl (lv_at hl 2 rfl) ?_
  refine mg_at S hK hB wf_X11_152 rfl dX11_itemMeant_32 ?_
  refine lv_aload_n S.1 S.2.1 dX11_itemMeant_35 rfl (lv_at hl 1 rfl) ?_
  obtain ⟨r_1, σ_1, e_1, h⟩ := b2s h
  refine mCallWI S hK mKYc hKS hA (kX11_which (xt := q) (t := 5) e_1) (cwX11_146 S.2.2.2.2 (rm := rmX11_which) rfl rfl ⟨Nat.le_of_ble_eq_true rfl, Nat.le_of_ble_eq_true rfl⟩) hB trivial hK3 rfl hl.1 rfl (lv_room (Nat.le_of_ble_eq_true rfl)) dX11_itemMeant_36 ⟨by decide, by decide⟩ (fun H locs hB => ?_)
  replace hB := gDrop hB
  have hl : lv_has ls 7 [(2, .int (σ.1 7)), (0, .ref (ad 0))] := lv_sub hl [0, 2] rfl
  refine lv_istore_n (lv' := [(3, .int r_1), (2, .int (σ.1 7)), (0, .ref (ad 0))]) S.1 S.2.1 dX11_itemMeant_39 rfl hl (by decide) rfl (fun ls hl => ?_)
  refine lv_aload_n S.1 S.2.1 dX11_itemMeant_40 rfl (lv_at hl 2 rfl) ?_
  refine mg_many S hK hB wf_X11_61 dX11_itemMeant_41 ?_
  refine lv_iload_n S.1 S.2.1 dX11_itemMeant_44 rfl (lv_at hl 0 rfl) ?_
  obtain ⟨b_2, h⟩ := gd h
  refine ml_many (v := (σ_1.2.1 23 r_1.toNatClampNeg)) S hK hB b_2 rfl dX11_itemMeant_45 ?_
  refine lv_iload_n S.1 S.2.1 dX11_itemMeant_46 rfl (lv_at hl 0 rfl) ?_
  refine lv_if_ne (tgt := 55) S.1 S.2.1 dX11_itemMeant_47 (by decide) (fun c_3 => ?_) (fun c_3 => ?_)
  · replace h := (if_neg c_3).symm.trans h
    refine lv_bipush (v := (12 : Int32)) S.1 S.2.1 dX11_itemMeant_55 (by decide) ?_
    exact P57  _ _ _ _ _ _ _ _ h hB (lv_sub hl [2, 1, 0] rfl)
  · replace h := (if_pos c_3).symm.trans h
    refine lv_bipush (v := (8 : Int32)) S.1 S.2.1 dX11_itemMeant_50 (by decide) ?_
    refine lv_goto (tgt := 57) S.1 S.2.1 dX11_itemMeant_52 (by decide) ?_
    exact P57  _ _ _ _ _ _ _ _ h hB (lv_sub hl [2, 1, 0] rfl)
