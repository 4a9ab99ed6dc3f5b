def FX11_lastHolding_5 (L : Nat)  : Nat → Int32 → Int32 → Int32 → Int32 → MS → Option (Int32 × MS)
  | 0, _, _, _, _, _ => none
  | n+1, x1, x2, x3, x4, σ1 =>
    if x2 < x4 then
      some (x3, σ1)
    else
      b2 (FX11_holds x1 x4 σ1) fun r_2 σ_2 =>
      if r_2 = 0 then
        (FX11_lastHolding_5 L n) x1 x2 x3 (x4 + (1 : Int32)) σ_2
      else
        (FX11_lastHolding_5 L n) x1 x2 x4 (x4 + (1 : Int32)) σ_2
def FX11_lastHolding (L : Nat) (p0 : Int32) (p1 : Int32) (σ : MS) : Option (Int32 × MS) :=
  FX11_lastHolding_5 L L p0 p1 (-1 : Int32) (0 : Int32) σ
abbrev rmX11_lastHolding : Room := { frames := 2, cells := 0, slots := 0, locals := 44 }
set_option maxRecDepth 100000 in
set_option maxHeartbeats 4000000 in
theorem kX11_lastHolding {l : Launch} {D : va_G} {cI cJ : ClassId} {ad : Nat → Nat} {KS : (Nat → Prop) → State → Prop} {L : Nat} (hc : gC KS) {p0 : Int32} {p1 : Int32} {σ σ' : MS} {r : Int32} (h : FX11_lastHolding L p0 p1 σ = some (r, σ')) : gMet l yX11_lastHolding qX11_lastHolding rmX11_lastHolding 0 0 D vwCl [(cI, .int), (cJ, .long)] KS [.ref (ad 0), .int p0, .int p1] (MW cI cJ ad σ) (MW cI cJ ad σ') (some (.int r)) := by
  refine gMet.of (cc := cX11_lastHolding) (maxL := 5) (ret := (some .int)) (by decide) rfl (Nat.le_of_ble_eq_true rfl) ?_
  intro p e s m args below meth c S hr hlk hnm hK hKS hA hB ls hl
  have hl : lv_has ls 5 [(0, .ref (ad 0)), (1, .int p0), (2, .int p1)] := hl
  replace S : CallFix p m c cX11_lastHolding 5 s args (_ :: wsL_law) RX11 := S
  rw [FX11_lastHolding] at h
  have P5 : ∀  (n : Nat), ∀ (x1 : Int32) (x2 : Int32) (x3 : Int32) (x4 : Int32) (σ1 : MS) (H : Heap) (locs : List Loc) (ls : Array Slot), FX11_lastHolding_5 L n x1 x2 x3 x4 σ1 = some (r, σ') → gB D vwCl (va_A (MW cI cJ ad σ) s.heap.size) s.heap (MW cI cJ ad σ1) [] H locs → lv_has ls 5 [(0, .ref (ad 0)), (1, .int x1), (2, .int x2), (3, .int x3), (4, .int x4)] → W p l e rmX11_lastHolding s m args below meth c H locs 0 0 (MQ below (gQ D vwCl (MW cI cJ ad σ) (MW cI cJ ad σ') (some (.int r)) s.heap.size) args s 0 0 (va_A (MW cI cJ ad σ) s.heap.size)) (F0 m 5 ls []) := by
    intro n
    induction n with
    | zero => intro x1 x2 x3 x4 σ1 H locs ls h; simp only [FX11_lastHolding_5] at h; cases h
    | succ n ih =>
      intro x1 x2 x3 x4 σ1 H locs ls h hB hl
      rw [FX11_lastHolding_5] at h
      refine lv_iload S.1 S.2.1 dX11_lastHolding_5 (lv_at hl 4 rfl) ?_
      refine lv_iload_n S.1 S.2.1 dX11_lastHolding_7 rfl (lv_at hl 2 rfl) ?_
      refine lv_icmp_gt (tgt := 30) S.1 S.2.1 dX11_lastHolding_8 (by decide) (fun c_1 => ?_) (fun c_1 => ?_)
      · replace h := (if_pos c_1).symm.trans h
        refine lv_iload_n S.1 S.2.1 dX11_lastHolding_30 rfl (lv_at hl 3 rfl) ?_
        cases h
        exact gRetI S.1 S.2.1 hr hlk hB dX11_lastHolding_31
      · replace h := (if_neg c_1).symm.trans h
        refine lv_aload_n S.1 S.2.1 dX11_lastHolding_11 rfl (lv_at hl 0 rfl) ?_
        refine lv_iload_n S.1 S.2.1 dX11_lastHolding_12 rfl (lv_at hl 1 rfl) ?_
        refine lv_iload S.1 S.2.1 dX11_lastHolding_13 (lv_at hl 4 rfl) ?_
        obtain ⟨r_2, σ_2, e_2, h⟩ := b2s h
        refine mCallI S hK hc hKS hA (kX11_holds hc e_2) (cwX11_407 S.2.2.2.2 (rm := rmX11_holds) rfl rfl ⟨Nat.le_of_ble_eq_true rfl, Nat.le_of_ble_eq_true rfl⟩) hB rfl hl.1 rfl (lv_room (Nat.le_of_ble_eq_true rfl)) dX11_lastHolding_15 ⟨Nat.zero_le _, Nat.zero_le _⟩ (fun H locs hB => ?_)
        refine lv_if_eq (tgt := 24) S.1 S.2.1 dX11_lastHolding_18 (by decide) (fun c_3 => ?_) (fun c_3 => ?_)
        · replace h := (if_pos c_3).symm.trans h
          refine lv_iinc (v := (x4 + (1 : Int32))) (lv' := [(4, .int (x4 + (1 : Int32))), (0, .ref (ad 0)), (1, .int x1), (2, .int x2), (3, .int x3)]) S.1 S.2.1 dX11_lastHolding_24 hl (k := 4) rfl rfl (by decide) rfl (fun ls hl => ?_)
          refine lv_goto (tgt := 5) S.1 S.2.1 dX11_lastHolding_27 (by decide) ?_
          exact ih _ _ _ _ _ _ _ _ h hB (lv_sub hl [1, 2, 3, 4, 0] rfl)
        · replace h := (if_neg c_3).symm.trans h
          refine lv_iload S.1 S.2.1 dX11_lastHolding_21 (lv_at hl 4 rfl) ?_
          refine lv_istore_n (lv' := [(3, .int x4), (0, .ref (ad 0)), (1, .int x1), (2, .int x2), (4, .int x4)]) S.1 S.2.1 dX11_lastHolding_23 rfl hl (by decide) rfl (fun ls hl => ?_)
          refine lv_iinc (v := (x4 + (1 : Int32))) (lv' := [(4, .int (x4 + (1 : Int32))), (3, .int x4), (0, .ref (ad 0)), (1, .int x1), (2, .int x2)]) S.1 S.2.1 dX11_lastHolding_24 hl (k := 4) rfl rfl (by decide) rfl (fun ls hl => ?_)
          refine lv_goto (tgt := 5) S.1 S.2.1 dX11_lastHolding_27 (by decide) ?_
          exact ih _ _ _ _ _ _ _ _ h hB (lv_sub hl [2, 3, 4, 1, 0] rfl)
  refine lv_iconst (v := (-1 : Int32)) S.1 S.2.1 dX11_lastHolding_0 (by decide) ?_
  refine lv_istore_n (lv' := [(3, .int (-1 : Int32)), (0, .ref (ad 0)), (1, .int p0), (2, .int p1)]) S.1 S.2.1 dX11_lastHolding_1 rfl hl (by decide) rfl (fun ls hl => ?_)
  refine lv_iconst (v := (0 : Int32)) S.1 S.2.1 dX11_lastHolding_2 (by decide) ?_
  refine lv_istore (lv' := [(4, .int (0 : Int32)), (3, .int (-1 : Int32)), (0, .ref (ad 0)), (1, .int p0), (2, .int p1)]) S.1 S.2.1 dX11_lastHolding_3 hl (by decide) rfl (fun ls hl => ?_)
  exact P5  L _ _ _ _ _ _ _ _ h hB (lv_sub hl [2, 3, 4, 1, 0] rfl)
def FX11_overAll_11 (L : Nat)  : Nat → Int32 → Int32 → Int32 → Int64 → Int32 → MS → Option (Int64 × MS)
  | 0, _, _, _, _, _, _ => none
  | n+1, x1, x2, x3, x4, x6, σ1 =>
    if x3 < x6 then
      some (x4, σ1)
    else
      if x1 = (27 : Int32) then
        b2 (FX11_at x2 x6 σ1) fun r_7 σ_7 =>
        (FX11_overAll_11 L n) x1 x2 x3 (if r_7 < x4 then x4 else r_7) (x6 + (1 : Int32)) σ_7
      else
        if x1 = (28 : Int32) then
          b2 (FX11_at x2 x6 σ1) fun r_6 σ_6 =>
          (FX11_overAll_11 L n) x1 x2 x3 (if r_6 < x4 then r_6 else x4) (x6 + (1 : Int32)) σ_6
        else
          b2 (FX11_at x2 x6 σ1) fun r_5 σ_5 =>
          (FX11_overAll_11 L n) x1 x2 x3 (x4 + r_5) (x6 + (1 : Int32)) σ_5
def FX11_overAll (L : Nat) (p0 : Int32) (p1 : Int32) (p2 : Int32) (σ : MS) : Option (Int64 × MS) :=
  b2 (FX11_at p1 (0 : Int32) σ) fun r_1 σ_1 =>
  FX11_overAll_11 L L p0 p1 p2 r_1 (1 : Int32) σ_1
abbrev rmX11_overAll : Room := { frames := 1, cells := 0, slots := 0, locals := 24 }
set_option maxRecDepth 100000 in
set_option maxHeartbeats 4000000 in
theorem kX11_overAll {l : Launch} {D : va_G} {cI cJ : ClassId} {ad : Nat → Nat} {KS : (Nat → Prop) → State → Prop} {L : Nat} (hc : gC KS) {p0 : Int32} {p1 : Int32} {p2 : Int32} {σ σ' : MS} {r : Int64} (h : FX11_overAll L p0 p1 p2 σ = some (r, σ')) : gMet l yX11_overAll qX11_overAll rmX11_overAll 0 0 D vwCl [(cI, .int), (cJ, .long)] KS [.ref (ad 0), .int p0, .int p1, .int p2] (MW cI cJ ad σ) (MW cI cJ ad σ') (some (.long r)) := by
  refine gMet.of (cc := cX11_overAll) (maxL := 7) (ret := (some .long)) (by decide) rfl (Nat.le_of_ble_eq_true rfl) ?_
  intro p e s m args below meth c S hr hlk hnm hK hKS hA hB ls hl
  have hl : lv_has ls 7 [(0, .ref (ad 0)), (1, .int p0), (2, .int p1), (3, .int p2)] := hl
  replace S : CallFix p m c cX11_overAll 7 s args (_ :: wsL_law) RX11 := S
  rw [FX11_overAll] at h
  have P11 : ∀  (n : Nat), ∀ (x1 : Int32) (x2 : Int32) (x3 : Int32) (x4 : Int64) (x6 : Int32) (σ1 : MS) (H : Heap) (locs : List Loc) (ls : Array Slot), FX11_overAll_11 L n x1 x2 x3 x4 x6 σ1 = some (r, σ') → gB D vwCl (va_A (MW cI cJ ad σ) s.heap.size) s.heap (MW cI cJ ad σ1) [] H locs → lv_has ls 7 [(0, .ref (ad 0)), (1, .int x1), (2, .int x2), (3, .int x3), (4, .long x4), (6, .int x6)] → W p l e rmX11_overAll s m args below meth c H locs 0 0 (MQ below (gQ D vwCl (MW cI cJ ad σ) (MW cI cJ ad σ') (some (.long r)) s.heap.size) args s 0 0 (va_A (MW cI cJ ad σ) s.heap.size)) (F0 m 11 ls []) := by
    intro n
    induction n with
    | zero => intro x1 x2 x3 x4 x6 σ1 H locs ls h; simp only [FX11_overAll_11] at h; cases h
    | succ n ih =>
      intro x1 x2 x3 x4 x6 σ1 H locs ls h hB hl
      rw [FX11_overAll_11] at h
      refine lv_iload S.1 S.2.1 dX11_overAll_11 (lv_at hl 5 rfl) ?_
      refine lv_iload_n S.1 S.2.1 dX11_overAll_13 rfl (lv_at hl 3 rfl) ?_
      refine lv_icmp_gt (tgt := 77) S.1 S.2.1 dX11_overAll_14 (by decide) (fun c_2 => ?_) (fun c_2 => ?_)
      · replace h := (if_pos c_2).symm.trans h
        refine lv_lload S.1 S.2.1 dX11_overAll_77 (lv_at hl 4 rfl) ?_
        cases h
        exact gRetL S.1 S.2.1 hr hlk hB dX11_overAll_79
      · replace h := (if_neg c_2).symm.trans h
        refine lv_iload_n S.1 S.2.1 dX11_overAll_17 rfl (lv_at hl 1 rfl) ?_
        refine lv_bipush (v := (27 : Int32)) S.1 S.2.1 dX11_overAll_18 (by decide) ?_
        refine lv_icmp_ne (tgt := 38) S.1 S.2.1 dX11_overAll_20 (by decide) (fun c_3 => ?_) (fun c_3 => ?_)
        · replace h := (if_neg c_3).symm.trans h
          refine lv_iload_n S.1 S.2.1 dX11_overAll_38 rfl (lv_at hl 1 rfl) ?_
          refine lv_bipush (v := (28 : Int32)) S.1 S.2.1 dX11_overAll_39 (by decide) ?_
          refine lv_icmp_ne (tgt := 59) S.1 S.2.1 dX11_overAll_41 (by decide) (fun c_4 => ?_) (fun c_4 => ?_)
          · replace h := (if_neg c_4).symm.trans h
            refine lv_lload S.1 S.2.1 dX11_overAll_59 (lv_at hl 4 rfl) ?_
            refine lv_aload_n S.1 S.2.1 dX11_overAll_61 rfl (lv_at hl 0 rfl) ?_
            refine lv_iload_n S.1 S.2.1 dX11_overAll_62 rfl (lv_at hl 2 rfl) ?_
            refine lv_iload S.1 S.2.1 dX11_overAll_63 (lv_at hl 5 rfl) ?_
            obtain ⟨r_5, σ_5, e_5, h⟩ := b2s h
            refine mCallL S hK hc hKS hA (kX11_at hc e_5) (cwX11_393 S.2.2.2.2 (rm := rmX11_at) rfl rfl ⟨Nat.le_of_ble_eq_true rfl, Nat.le_of_ble_eq_true rfl⟩) hB rfl hl.1 rfl (lv_room (Nat.le_of_ble_eq_true rfl)) dX11_overAll_65 ⟨Nat.zero_le _, Nat.zero_le _⟩ (fun H locs hB => ?_)
            refine lv_ladd S.1 S.2.1 dX11_overAll_68 ?_
            refine lv_lstore (lv' := [(4, .long (x4 + r_5)), (0, .ref (ad 0)), (1, .int x1), (2, .int x2), (3, .int x3), (6, .int x6)]) S.1 S.2.1 dX11_overAll_69 hl (by decide) rfl (fun ls hl => ?_)
            refine lv_iinc (v := (x6 + (1 : Int32))) (lv' := [(6, .int (x6 + (1 : Int32))), (4, .long (x4 + r_5)), (0, .ref (ad 0)), (1, .int x1), (2, .int x2), (3, .int x3)]) S.1 S.2.1 dX11_overAll_71 hl (k := 5) rfl rfl (by decide) rfl (fun ls hl => ?_)
            refine lv_goto (tgt := 11) S.1 S.2.1 dX11_overAll_74 (by decide) ?_
            exact ih _ _ _ _ _ _ _ _ _ h hB (lv_sub hl [2, 3, 4, 5, 1, 0] rfl)
          · replace h := (if_pos c_4).symm.trans h
            refine lv_lload S.1 S.2.1 dX11_overAll_44 (lv_at hl 4 rfl) ?_
            refine lv_aload_n S.1 S.2.1 dX11_overAll_46 rfl (lv_at hl 0 rfl) ?_
            refine lv_iload_n S.1 S.2.1 dX11_overAll_47 rfl (lv_at hl 2 rfl) ?_
            refine lv_iload S.1 S.2.1 dX11_overAll_48 (lv_at hl 5 rfl) ?_
            obtain ⟨r_6, σ_6, e_6, h⟩ := b2s h
            refine mCallL S hK hc hKS hA (kX11_at hc e_6) (cwX11_393 S.2.2.2.2 (rm := rmX11_at) rfl rfl ⟨Nat.le_of_ble_eq_true rfl, Nat.le_of_ble_eq_true rfl⟩) hB rfl hl.1 rfl (lv_room (Nat.le_of_ble_eq_true rfl)) dX11_overAll_50 ⟨Nat.zero_le _, Nat.zero_le _⟩ (fun H locs hB => ?_)
            refine va_mmin_long S.1 S.2.1 (S.2.2.1.trans hl.1.symm) S.2.2.2.1 (S.2.2.2.2 _ (List.mem_cons_of_mem _ wm_X11_439)) (S.2.2.2.2 _ (List.mem_cons_of_mem _ wo_static_MathLoose_min_long_x)) (S.2.2.2.2 _ (List.mem_cons_of_mem _ wo_init_Math)) (S.2.2.2.2 _ (List.mem_cons_of_mem _ wo_code_MathLoose_min_long_x)) (Nat.le_of_ble_eq_true rfl) (Nat.le_of_ble_eq_true rfl) (Nat.zero_le _) (Nat.zero_le _) dX11_overAll_53 ?_
            refine lv_goto (tgt := 69) S.1 S.2.1 dX11_overAll_56 (by decide) ?_
            refine lv_lstore (lv' := [(4, .long (if r_6 < x4 then r_6 else x4)), (0, .ref (ad 0)), (1, .int x1), (2, .int x2), (3, .int x3), (6, .int x6)]) S.1 S.2.1 dX11_overAll_69 hl (by decide) rfl (fun ls hl => ?_)
            refine lv_iinc (v := (x6 + (1 : Int32))) (lv' := [(6, .int (x6 + (1 : Int32))), (4, .long (if r_6 < x4 then r_6 else x4)), (0, .ref (ad 0)), (1, .int x1), (2, .int x2), (3, .int x3)]) S.1 S.2.1 dX11_overAll_71 hl (k := 5) rfl rfl (by decide) rfl (fun ls hl => ?_)
            refine lv_goto (tgt := 11) S.1 S.2.1 dX11_overAll_74 (by decide) ?_
            exact ih _ _ _ _ _ _ _ _ _ h hB (lv_sub hl [2, 3, 4, 5, 1, 0] rfl)
        · replace h := (if_pos c_3).symm.trans h
          refine lv_lload S.1 S.2.1 dX11_overAll_23 (lv_at hl 4 rfl) ?_
          refine lv_aload_n S.1 S.2.1 dX11_overAll_25 rfl (lv_at hl 0 rfl) ?_
          refine lv_iload_n S.1 S.2.1 dX11_overAll_26 rfl (lv_at hl 2 rfl) ?_
          refine lv_iload S.1 S.2.1 dX11_overAll_27 (lv_at hl 5 rfl) ?_
          obtain ⟨r_7, σ_7, e_7, h⟩ := b2s h
          refine mCallL S hK hc hKS hA (kX11_at hc e_7) (cwX11_393 S.2.2.2.2 (rm := rmX11_at) rfl rfl ⟨Nat.le_of_ble_eq_true rfl, Nat.le_of_ble_eq_true rfl⟩) hB rfl hl.1 rfl (lv_room (Nat.le_of_ble_eq_true rfl)) dX11_overAll_29 ⟨Nat.zero_le _, Nat.zero_le _⟩ (fun H locs hB => ?_)
          refine va_mmax_long S.1 S.2.1 (S.2.2.1.trans hl.1.symm) S.2.2.2.1 (S.2.2.2.2 _ (List.mem_cons_of_mem _ wm_X11_436)) (S.2.2.2.2 _ (List.mem_cons_of_mem _ wo_static_MathLoose_max_long_x)) (S.2.2.2.2 _ (List.mem_cons_of_mem _ wo_init_Math)) (S.2.2.2.2 _ (List.mem_cons_of_mem _ wo_code_MathLoose_max_long_x)) (Nat.le_of_ble_eq_true rfl) (Nat.le_of_ble_eq_true rfl) (Nat.zero_le _) (Nat.zero_le _) dX11_overAll_32 ?_
          refine lv_goto (tgt := 69) S.1 S.2.1 dX11_overAll_35 (by decide) ?_
          refine lv_lstore (lv' := [(4, .long (if r_7 < x4 then x4 else r_7)), (0, .ref (ad 0)), (1, .int x1), (2, .int x2), (3, .int x3), (6, .int x6)]) S.1 S.2.1 dX11_overAll_69 hl (by decide) rfl (fun ls hl => ?_)
          refine lv_iinc (v := (x6 + (1 : Int32))) (lv' := [(6, .int (x6 + (1 : Int32))), (4, .long (if r_7 < x4 then x4 else r_7)), (0, .ref (ad 0)), (1, .int x1), (2, .int x2), (3, .int x3)]) S.1 S.2.1 dX11_overAll_71 hl (k := 5) rfl rfl (by decide) rfl (fun ls hl => ?_)
          refine lv_goto (tgt := 11) S.1 S.2.1 dX11_overAll_74 (by decide) ?_
          exact ih _ _ _ _ _ _ _ _ _ h hB (lv_sub hl [2, 3, 4, 5, 1, 0] rfl)
  refine lv_aload_n S.1 S.2.1 dX11_overAll_0 rfl (lv_at hl 0 rfl) ?_
  refine lv_iload_n S.1 S.2.1 dX11_overAll_1 rfl (lv_at hl 2 rfl) ?_
  refine lv_iconst (v := (0 : Int32)) S.1 S.2.1 dX11_overAll_2 (by decide) ?_
  obtain ⟨r_1, σ_1, e_1, h⟩ := b2s h
  refine mCallL S hK hc hKS hA (kX11_at hc e_1) (cwX11_393 S.2.2.2.2 (rm := rmX11_at) rfl rfl ⟨Nat.le_of_ble_eq_true rfl, Nat.le_of_ble_eq_true rfl⟩) hB rfl hl.1 rfl (lv_room (Nat.le_of_ble_eq_true rfl)) dX11_overAll_3 ⟨Nat.zero_le _, Nat.zero_le _⟩ (fun H locs hB => ?_)
  refine lv_lstore (lv' := [(4, .long r_1), (0, .ref (ad 0)), (1, .int p0), (2, .int p1), (3, .int p2)]) S.1 S.2.1 dX11_overAll_6 hl (by decide) rfl (fun ls hl => ?_)
  refine lv_iconst (v := (1 : Int32)) S.1 S.2.1 dX11_overAll_8 (by decide) ?_
  refine lv_istore (lv' := [(6, .int (1 : Int32)), (4, .long r_1), (0, .ref (ad 0)), (1, .int p0), (2, .int p1), (3, .int p2)]) S.1 S.2.1 dX11_overAll_9 hl (by decide) rfl (fun ls hl => ?_)
  exact P11  L _ _ _ _ _ _ _ _ _ h hB (lv_sub hl [2, 3, 4, 5, 1, 0] rfl)
def FX11_firstMiss_5 (L : Nat)  : Nat → Int32 → Int32 → Int32 → Int32 → MS → Option (Int32 × MS)
  | 0, _, _, _, _, _ => none
  | n+1, x1, x2, x3, x4, σ1 =>
    if x4 < 0 then
      some (x3, σ1)
    else
      if (x1 < 0 ∨ 1203 ≤ x1.toNatClampNeg) then none else
      b2 (FX11_holds (σ1.2.1 10 x1.toNatClampNeg) x4 σ1) fun r_3 σ_3 =>
      if r_3 = 0 then
        b2 (FX11_isWithin x1 x4 x2 σ_3) fun r_5 σ_5 =>
        if r_5 = 0 then
          (FX11_firstMiss_5 L n) x1 x2 x3 (x4 + (-1 : Int32)) σ_5
        else
          (FX11_firstMiss_5 L n) x1 x2 x4 (x4 + (-1 : Int32)) σ_5
      else
        (FX11_firstMiss_5 L n) x1 x2 x3 (x4 + (-1 : Int32)) σ_3
def FX11_firstMiss (L : Nat) (p0 : Int32) (p1 : Int32) (σ : MS) : Option (Int32 × MS) :=
  FX11_firstMiss_5 L L p0 p1 (-1 : Int32) p1 σ
abbrev rmX11_firstMiss : Room := { frames := 2, cells := 0, slots := 0, locals := 45 }
set_option maxRecDepth 100000 in
set_option maxHeartbeats 4000000 in
theorem kX11_firstMiss {l : Launch} {D : va_G} {cI cJ : ClassId} {ad : Nat → Nat} {KS : (Nat → Prop) → State → Prop} {L : Nat} (hc : gC KS) {p0 : Int32} {p1 : Int32} {σ σ' : MS} {r : Int32} (h : FX11_firstMiss L p0 p1 σ = some (r, σ')) : gMet l yX11_firstMiss qX11_firstMiss rmX11_firstMiss 0 0 D vwCl [(cI, .int), (cJ, .long)] KS [.ref (ad 0), .int p0, .int p1] (MW cI cJ ad σ) (MW cI cJ ad σ') (some (.int r)) := by
  refine gMet.of (cc := cX11_firstMiss) (maxL := 5) (ret := (some .int)) (by decide) rfl (Nat.le_of_ble_eq_true rfl) ?_
  intro p e s m args below meth c S hr hlk hnm hK hKS hA hB ls hl
  have hl : lv_has ls 5 [(0, .ref (ad 0)), (1, .int p0), (2, .int p1)] := hl
  replace S : CallFix p m c cX11_firstMiss 5 s args (_ :: wsL_law) RX11 := S
  rw [FX11_firstMiss] at h
  have P5 : ∀  (n : Nat), ∀ (x1 : Int32) (x2 : Int32) (x3 : Int32) (x4 : Int32) (σ1 : MS) (H : Heap) (locs : List Loc) (ls : Array Slot), FX11_firstMiss_5 L n x1 x2 x3 x4 σ1 = some (r, σ') → gB D vwCl (va_A (MW cI cJ ad σ) s.heap.size) s.heap (MW cI cJ ad σ1) [] H locs → lv_has ls 5 [(0, .ref (ad 0)), (1, .int x1), (2, .int x2), (3, .int x3), (4, .int x4)] → W p l e rmX11_firstMiss s m args below meth c H locs 0 0 (MQ below (gQ D vwCl (MW cI cJ ad σ) (MW cI cJ ad σ') (some (.int r)) s.heap.size) args s 0 0 (va_A (MW cI cJ ad σ) s.heap.size)) (F0 m 5 ls []) := by
    intro n
    induction n with
    | zero => intro x1 x2 x3 x4 σ1 H locs ls h; simp only [FX11_firstMiss_5] at h; cases h
    | succ n ih =>
      intro x1 x2 x3 x4 σ1 H locs ls h hB hl
      rw [FX11_firstMiss_5] at h
      refine lv_iload S.1 S.2.1 dX11_firstMiss_5 (lv_at hl 4 rfl) ?_
      refine lv_if_lt (tgt := 45) S.1 S.2.1 dX11_firstMiss_7 (by decide) (fun c_1 => ?_) (fun c_1 => ?_)
      · replace h := (if_pos c_1).symm.trans h
        refine lv_iload_n S.1 S.2.1 dX11_firstMiss_45 rfl (lv_at hl 3 rfl) ?_
        cases h
        exact gRetI S.1 S.2.1 hr hlk hB dX11_firstMiss_46
      · replace h := (if_neg c_1).symm.trans h
        refine lv_aload_n S.1 S.2.1 dX11_firstMiss_10 rfl (lv_at hl 0 rfl) ?_
        refine lv_aload_n S.1 S.2.1 dX11_firstMiss_11 rfl (lv_at hl 0 rfl) ?_
        refine mg_first S hK hB wf_X11_29 dX11_firstMiss_12 ?_
        refine lv_iload_n S.1 S.2.1 dX11_firstMiss_15 rfl (lv_at hl 1 rfl) ?_
        obtain ⟨b_2, h⟩ := gd h
        refine ml_first (v := (σ1.2.1 10 x1.toNatClampNeg)) S hK hB b_2 rfl dX11_firstMiss_16 ?_
        refine lv_iload S.1 S.2.1 dX11_firstMiss_17 (lv_at hl 4 rfl) ?_
        obtain ⟨r_3, σ_3, e_3, h⟩ := b2s h
        refine mCallI S hK hc hKS hA (kX11_holds hc e_3) (cwX11_407 S.2.2.2.2 (rm := rmX11_holds) rfl rfl ⟨Nat.le_of_ble_eq_true rfl, Nat.le_of_ble_eq_true rfl⟩) hB rfl hl.1 rfl (lv_room (Nat.le_of_ble_eq_true rfl)) dX11_firstMiss_19 ⟨Nat.zero_le _, Nat.zero_le _⟩ (fun H locs hB => ?_)
        refine lv_if_ne (tgt := 39) S.1 S.2.1 dX11_firstMiss_22 (by decide) (fun c_4 => ?_) (fun c_4 => ?_)
        · replace h := (if_neg c_4).symm.trans h
          refine lv_iinc (v := (x4 + (-1 : Int32))) (lv' := [(4, .int (x4 + (-1 : Int32))), (0, .ref (ad 0)), (1, .int x1), (2, .int x2), (3, .int x3)]) S.1 S.2.1 dX11_firstMiss_39 hl (k := 4) rfl rfl (by decide) rfl (fun ls hl => ?_)
          refine lv_goto (tgt := 5) S.1 S.2.1 dX11_firstMiss_42 (by decide) ?_
          exact ih _ _ _ _ _ _ _ _ h hB (lv_sub hl [1, 2, 3, 4, 0] rfl)
        · replace h := (if_pos c_4).symm.trans h
          refine lv_aload_n S.1 S.2.1 dX11_firstMiss_25 rfl (lv_at hl 0 rfl) ?_
          refine lv_iload_n S.1 S.2.1 dX11_firstMiss_26 rfl (lv_at hl 1 rfl) ?_
          refine lv_iload S.1 S.2.1 dX11_firstMiss_27 (lv_at hl 4 rfl) ?_
          refine lv_iload_n S.1 S.2.1 dX11_firstMiss_29 rfl (lv_at hl 2 rfl) ?_
          obtain ⟨r_5, σ_5, e_5, h⟩ := b2s h
          refine mCallI S hK hc hKS hA (kX11_isWithin hc e_5) (cwX11_410 S.2.2.2.2 (rm := rmX11_isWithin) rfl rfl ⟨Nat.le_of_ble_eq_true rfl, Nat.le_of_ble_eq_true rfl⟩) hB rfl hl.1 rfl (lv_room (Nat.le_of_ble_eq_true rfl)) dX11_firstMiss_30 ⟨Nat.zero_le _, Nat.zero_le _⟩ (fun H locs hB => ?_)
          refine lv_if_eq (tgt := 39) S.1 S.2.1 dX11_firstMiss_33 (by decide) (fun c_6 => ?_) (fun c_6 => ?_)
          · replace h := (if_pos c_6).symm.trans h
            refine lv_iinc (v := (x4 + (-1 : Int32))) (lv' := [(4, .int (x4 + (-1 : Int32))), (0, .ref (ad 0)), (1, .int x1), (2, .int x2), (3, .int x3)]) S.1 S.2.1 dX11_firstMiss_39 hl (k := 4) rfl rfl (by decide) rfl (fun ls hl => ?_)
            refine lv_goto (tgt := 5) S.1 S.2.1 dX11_firstMiss_42 (by decide) ?_
            exact ih _ _ _ _ _ _ _ _ h hB (lv_sub hl [1, 2, 3, 4, 0] rfl)
          · replace h := (if_neg c_6).symm.trans h
            refine lv_iload S.1 S.2.1 dX11_firstMiss_36 (lv_at hl 4 rfl) ?_
            refine lv_istore_n (lv' := [(3, .int x4), (0, .ref (ad 0)), (1, .int x1), (2, .int x2), (4, .int x4)]) S.1 S.2.1 dX11_firstMiss_38 rfl hl (by decide) rfl (fun ls hl => ?_)
            refine lv_iinc (v := (x4 + (-1 : Int32))) (lv' := [(4, .int (x4 + (-1 : Int32))), (3, .int x4), (0, .ref (ad 0)), (1, .int x1), (2, .int x2)]) S.1 S.2.1 dX11_firstMiss_39 hl (k := 4) rfl rfl (by decide) rfl (fun ls hl => ?_)
            refine lv_goto (tgt := 5) S.1 S.2.1 dX11_firstMiss_42 (by decide) ?_
            exact ih _ _ _ _ _ _ _ _ h hB (lv_sub hl [2, 3, 4, 1, 0] rfl)
  refine lv_iconst (v := (-1 : Int32)) S.1 S.2.1 dX11_firstMiss_0 (by decide) ?_
  refine lv_istore_n (lv' := [(3, .int (-1 : Int32)), (0, .ref (ad 0)), (1, .int p0), (2, .int p1)]) S.1 S.2.1 dX11_firstMiss_1 rfl hl (by decide) rfl (fun ls hl => ?_)
  refine lv_iload_n S.1 S.2.1 dX11_firstMiss_2 rfl (lv_at hl 3 rfl) ?_
  refine lv_istore (lv' := [(4, .int p1), (3, .int (-1 : Int32)), (0, .ref (ad 0)), (1, .int p0), (2, .int p1)]) S.1 S.2.1 dX11_firstMiss_3 hl (by decide) rfl (fun ls hl => ?_)
  exact P5  L _ _ _ _ _ _ _ _ h hB (lv_sub hl [2, 3, 4, 1, 0] rfl)
def FX11_isSince_53 (L : Nat) (k8 : Int32 → Int32 → Int32 → Int32 → Int32 → MS → Option (Int32 × MS)) (x1 : Int32) (x2 : Int32) (x5 : Int32) (y0 : Int32) (σ1 : MS) : Option (Int32 × MS) :=
    if (x1 < 0 ∨ 1203 ≤ x1.toNatClampNeg) then none else
    b2 (FX11_holds (σ1.2.1 10 x1.toNatClampNeg) x5 σ1) fun r_7 σ_7 =>
    k8 x1 x2 y0 r_7 (x5 + (-1 : Int32)) σ_7
def FX11_isSince_48 (L : Nat) (k8 : Int32 → Int32 → Int32 → Int32 → Int32 → MS → Option (Int32 × MS)) (x1 : Int32) (x2 : Int32) (x5 : Int32) (σ1 : MS) : Option (Int32 × MS) :=
    FX11_isSince_53 L k8 x1 x2 x5 (1 : Int32) σ1
def FX11_isSince_52 (L : Nat) (k8 : Int32 → Int32 → Int32 → Int32 → Int32 → MS → Option (Int32 × MS)) (x1 : Int32) (x2 : Int32) (x5 : Int32) (σ1 : MS) : Option (Int32 × MS) :=
    FX11_isSince_53 L k8 x1 x2 x5 (0 : Int32) σ1
def FX11_isSince_8 (L : Nat)  : Nat → Int32 → Int32 → Int32 → Int32 → Int32 → MS → Option (Int32 × MS)
  | 0, _, _, _, _, _, _ => none
  | n+1, x1, x2, x3, x4, x5, σ1 =>
    if x5 < 0 then
      if (x3 ≠ 0 ∧ x3 ≠ 1) then none else
      some (x3, σ1)
    else
      if x4 = 0 then
        if (x3 ≠ 0 ∧ x3 ≠ 1) then none else
        some (x3, σ1)
      else
        if x3 = 0 then
          if (x1 < 0 ∨ 1203 ≤ x1.toNatClampNeg) then none else
          b2 (FX11_holds (σ1.2.1 11 x1.toNatClampNeg) x5 σ1) fun r_9 σ_9 =>
          if r_9 = 0 then
            FX11_isSince_52 L (FX11_isSince_8 L n) x1 x2 x5 σ_9
          else
            b2 (FX11_isWithin x1 x5 x2 σ_9) fun r_11 σ_11 =>
            if r_11 = 0 then
              FX11_isSince_52 L (FX11_isSince_8 L n) x1 x2 x5 σ_11
            else
              FX11_isSince_48 L (FX11_isSince_8 L n) x1 x2 x5 σ_11
        else
          FX11_isSince_48 L (FX11_isSince_8 L n) x1 x2 x5 σ1
def FX11_isSince (L : Nat) (p0 : Int32) (p1 : Int32) (σ : MS) : Option (Int32 × MS) :=
  FX11_isSince_8 L L p0 p1 (0 : Int32) (1 : Int32) p1 σ
abbrev rmX11_isSince : Room := { frames := 2, cells := 0, slots := 0, locals := 45 }
set_option maxRecDepth 100000 in
set_option maxHeartbeats 4000000 in
theorem kX11_isSince {l : Launch} {D : va_G} {cI cJ : ClassId} {ad : Nat → Nat} {KS : (Nat → Prop) → State → Prop} {L : Nat} (hc : gC KS) {p0 : Int32} {p1 : Int32} {σ σ' : MS} {r : Int32} (h : FX11_isSince L p0 p1 σ = some (r, σ')) : gMet l yX11_isSince qX11_isSince rmX11_isSince 0 0 D vwCl [(cI, .int), (cJ, .long)] KS [.ref (ad 0), .int p0, .int p1] (MW cI cJ ad σ) (MW cI cJ ad σ') (some (.int r)) := by
  refine gMet.of (cc := cX11_isSince) (maxL := 6) (ret := (some .boolean)) (by decide) rfl (Nat.le_of_ble_eq_true rfl) ?_
  intro p e s m args below meth c S hr hlk hnm hK hKS hA hB ls hl
  have hl : lv_has ls 6 [(0, .ref (ad 0)), (1, .int p0), (2, .int p1)] := hl
  replace S : CallFix p m c cX11_isSince 6 s args (_ :: wsL_law) RX11 := S
  rw [FX11_isSince] at h
  have P53 : ∀ (k8 : Int32 → Int32 → Int32 → Int32 → Int32 → MS → Option (Int32 × MS)) (hk8 : ∀ (x1 : Int32) (x2 : Int32) (x3 : Int32) (x4 : Int32) (x5 : Int32) (σ1 : MS) (H : Heap) (locs : List Loc) (ls : Array Slot), k8 x1 x2 x3 x4 x5 σ1 = some (r, σ') → gB D vwCl (va_A (MW cI cJ ad σ) s.heap.size) s.heap (MW cI cJ ad σ1) [] H locs → lv_has ls 6 [(0, .ref (ad 0)), (1, .int x1), (2, .int x2), (3, .int x3), (4, .int x4), (5, .int x5)] → W p l e rmX11_isSince s m args below meth c H locs 0 0 (MQ below (gQ D vwCl (MW cI cJ ad σ) (MW cI cJ ad σ') (some (.int r)) s.heap.size) args s 0 0 (va_A (MW cI cJ ad σ) s.heap.size)) (F0 m 8 ls [])), ∀ (x1 : Int32) (x2 : Int32) (x5 : Int32) (y0 : Int32) (σ1 : MS) (H : Heap) (locs : List Loc) (ls : Array Slot), FX11_isSince_53 L k8 x1 x2 x5 y0 σ1 = some (r, σ') → gB D vwCl (va_A (MW cI cJ ad σ) s.heap.size) s.heap (MW cI cJ ad σ1) [] H locs → lv_has ls 6 [(0, .ref (ad 0)), (1, .int x1), (2, .int x2), (5, .int x5)] → W p l e rmX11_isSince s m args below meth c H locs 0 0 (MQ below (gQ D vwCl (MW cI cJ ad σ) (MW cI cJ ad σ') (some (.int r)) s.heap.size) args s 0 0 (va_A (MW cI cJ ad σ) s.heap.size)) (F0 m 53 ls [.int y0]) := by
    intro k8 hk8 x1 x2 x5 y0 σ1 H locs ls h hB hl
    rw [FX11_isSince_53] at h
    refine lv_istore_n (lv' := [(3, .int y0), (0, .ref (ad 0)), (1, .int x1), (2, .int x2), (5, .int x5)]) S.1 S.2.1 dX11_isSince_53 rfl hl (by decide) rfl (fun ls hl => ?_)
    refine lv_aload_n S.1 S.2.1 dX11_isSince_54 rfl (lv_at hl 1 rfl) ?_
    refine lv_aload_n S.1 S.2.1 dX11_isSince_55 rfl (lv_at hl 1 rfl) ?_
    refine mg_first S hK hB wf_X11_29 dX11_isSince_56 ?_
    refine lv_iload_n S.1 S.2.1 dX11_isSince_59 rfl (lv_at hl 2 rfl) ?_
    obtain ⟨b_6, h⟩ := gd h
    refine ml_first (v := (σ1.2.1 10 x1.toNatClampNeg)) S hK hB b_6 rfl dX11_isSince_60 ?_
    refine lv_iload S.1 S.2.1 dX11_isSince_61 (lv_at hl 4 rfl) ?_
    obtain ⟨r_7, σ_7, e_7, h⟩ := b2s h
    refine mCallI S hK hc hKS hA (kX11_holds hc e_7) (cwX11_407 S.2.2.2.2 (rm := rmX11_holds) rfl rfl ⟨Nat.le_of_ble_eq_true rfl, Nat.le_of_ble_eq_true rfl⟩) hB rfl hl.1 rfl (lv_room (Nat.le_of_ble_eq_true rfl)) dX11_isSince_63 ⟨Nat.zero_le _, Nat.zero_le _⟩ (fun H locs hB => ?_)
    refine lv_istore (lv' := [(4, .int r_7), (3, .int y0), (0, .ref (ad 0)), (1, .int x1), (2, .int x2), (5, .int x5)]) S.1 S.2.1 dX11_isSince_66 hl (by decide) rfl (fun ls hl => ?_)
    refine lv_iinc (v := (x5 + (-1 : Int32))) (lv' := [(5, .int (x5 + (-1 : Int32))), (4, .int r_7), (3, .int y0), (0, .ref (ad 0)), (1, .int x1), (2, .int x2)]) S.1 S.2.1 dX11_isSince_68 hl (k := 5) rfl rfl (by decide) rfl (fun ls hl => ?_)
    refine lv_goto (tgt := 8) S.1 S.2.1 dX11_isSince_71 (by decide) ?_
    exact hk8 _ _ _ _ _ _ _ _ _ h hB (lv_sub hl [3, 4, 5, 2, 1, 0] rfl)
  have P48 : ∀ (k8 : Int32 → Int32 → Int32 → Int32 → Int32 → MS → Option (Int32 × MS)) (hk8 : ∀ (x1 : Int32) (x2 : Int32) (x3 : Int32) (x4 : Int32) (x5 : Int32) (σ1 : MS) (H : Heap) (locs : List Loc) (ls : Array Slot), k8 x1 x2 x3 x4 x5 σ1 = some (r, σ') → gB D vwCl (va_A (MW cI cJ ad σ) s.heap.size) s.heap (MW cI cJ ad σ1) [] H locs → lv_has ls 6 [(0, .ref (ad 0)), (1, .int x1), (2, .int x2), (3, .int x3), (4, .int x4), (5, .int x5)] → W p l e rmX11_isSince s m args below meth c H locs 0 0 (MQ below (gQ D vwCl (MW cI cJ ad σ) (MW cI cJ ad σ') (some (.int r)) s.heap.size) args s 0 0 (va_A (MW cI cJ ad σ) s.heap.size)) (F0 m 8 ls [])), ∀ (x1 : Int32) (x2 : Int32) (x5 : Int32) (σ1 : MS) (H : Heap) (locs : List Loc) (ls : Array Slot), FX11_isSince_48 L k8 x1 x2 x5 σ1 = some (r, σ') → gB D vwCl (va_A (MW cI cJ ad σ) s.heap.size) s.heap (MW cI cJ ad σ1) [] H locs → lv_has ls 6 [(0, .ref (ad 0)), (1, .int x1), (2, .int x2), (5, .int x5)] → W p l e rmX11_isSince s m args below meth c H locs 0 0 (MQ below (gQ D vwCl (MW cI cJ ad σ) (MW cI cJ ad σ') (some (.int r)) s.heap.size) args s 0 0 (va_A (MW cI cJ ad σ) s.heap.size)) (F0 m 48 ls []) := by
    intro k8 hk8 x1 x2 x5 σ1 H locs ls h hB hl
    rw [FX11_isSince_48] at h
    refine lv_iconst (v := (1 : Int32)) S.1 S.2.1 dX11_isSince_48 (by decide) ?_
    refine lv_goto (tgt := 53) S.1 S.2.1 dX11_isSince_49 (by decide) ?_
    exact P53 k8 hk8 _ _ _ _ _ _ _ _ h hB hl
  have P52 : ∀ (k8 : Int32 → Int32 → Int32 → Int32 → Int32 → MS → Option (Int32 × MS)) (hk8 : ∀ (x1 : Int32) (x2 : Int32) (x3 : Int32) (x4 : Int32) (x5 : Int32) (σ1 : MS) (H : Heap) (locs : List Loc) (ls : Array Slot), k8 x1 x2 x3 x4 x5 σ1 = some (r, σ') → gB D vwCl (va_A (MW cI cJ ad σ) s.heap.size) s.heap (MW cI cJ ad σ1) [] H locs → lv_has ls 6 [(0, .ref (ad 0)), (1, .int x1), (2, .int x2), (3, .int x3), (4, .int x4), (5, .int x5)] → W p l e rmX11_isSince s m args below meth c H locs 0 0 (MQ below (gQ D vwCl (MW cI cJ ad σ) (MW cI cJ ad σ') (some (.int r)) s.heap.size) args s 0 0 (va_A (MW cI cJ ad σ) s.heap.size)) (F0 m 8 ls [])), ∀ (x1 : Int32) (x2 : Int32) (x5 : Int32) (σ1 : MS) (H : Heap) (locs : List Loc) (ls : Array Slot), FX11_isSince_52 L k8 x1 x2 x5 σ1 = some (r, σ') → gB D vwCl (va_A (MW cI cJ ad σ) s.heap.size) s.heap (MW cI cJ ad σ1) [] H locs → lv_has ls 6 [(0, .ref (ad 0)), (1, .int x1), (2, .int x2), (5, .int x5)] → W p l e rmX11_isSince s m args below meth c H locs 0 0 (MQ below (gQ D vwCl (MW cI cJ ad σ) (MW cI cJ ad σ') (some (.int r)) s.heap.size) args s 0 0 (va_A (MW cI cJ ad σ) s.heap.size)) (F0 m 52 ls []) := by
    intro k8 hk8 x1 x2 x5 σ1 H locs ls h hB hl
    rw [FX11_isSince_52] at h
    refine lv_iconst (v := (0 : Int32)) S.1 S.2.1 dX11_isSince_52 (by decide) ?_
    exact P53 k8 hk8 _ _ _ _ _ _ _ _ h hB hl
  have P8 : ∀  (n : Nat), ∀ (x1 : Int32) (x2 : Int32) (x3 : Int32) (x4 : Int32) (x5 : Int32) (σ1 : MS) (H : Heap) (locs : List Loc) (ls : Array Slot), FX11_isSince_8 L n x1 x2 x3 x4 x5 σ1 = some (r, σ') → gB D vwCl (va_A (MW cI cJ ad σ) s.heap.size) s.heap (MW cI cJ ad σ1) [] H locs → lv_has ls 6 [(0, .ref (ad 0)), (1, .int x1), (2, .int x2), (3, .int x3), (4, .int x4), (5, .int x5)] → W p l e rmX11_isSince s m args below meth c H locs 0 0 (MQ below (gQ D vwCl (MW cI cJ ad σ) (MW cI cJ ad σ') (some (.int r)) s.heap.size) args s 0 0 (va_A (MW cI cJ ad σ) s.heap.size)) (F0 m 8 ls []) := by
    intro n
    induction n with
    | zero => intro x1 x2 x3 x4 x5 σ1 H locs ls h; simp only [FX11_isSince_8] at h; cases h
    | succ n ih =>
      intro x1 x2 x3 x4 x5 σ1 H locs ls h hB hl
      rw [FX11_isSince_8] at h
      refine lv_iload S.1 S.2.1 dX11_isSince_8 (lv_at hl 5 rfl) ?_
      refine lv_if_lt (tgt := 74) S.1 S.2.1 dX11_isSince_10 (by decide) (fun c_1 => ?_) (fun c_1 => ?_)
      · replace h := (if_pos c_1).symm.trans h
        refine lv_iload_n S.1 S.2.1 dX11_isSince_74 rfl (lv_at hl 3 rfl) ?_
        obtain ⟨z_2, h⟩ := gd h
        cases h
        exact gRetZ S.1 S.2.1 hr hlk hB (nzB z_2) dX11_isSince_75
      · replace h := (if_neg c_1).symm.trans h
        refine lv_iload S.1 S.2.1 dX11_isSince_13 (lv_at hl 4 rfl) ?_
        refine lv_if_eq (tgt := 74) S.1 S.2.1 dX11_isSince_15 (by decide) (fun c_3 => ?_) (fun c_3 => ?_)
        · replace h := (if_pos c_3).symm.trans h
          refine lv_iload_n S.1 S.2.1 dX11_isSince_74 rfl (lv_at hl 3 rfl) ?_
          obtain ⟨z_4, h⟩ := gd h
          cases h
          exact gRetZ S.1 S.2.1 hr hlk hB (nzB z_4) dX11_isSince_75
        · replace h := (if_neg c_3).symm.trans h
          refine lv_iload_n S.1 S.2.1 dX11_isSince_18 rfl (lv_at hl 3 rfl) ?_
          refine lv_if_ne (tgt := 48) S.1 S.2.1 dX11_isSince_19 (by decide) (fun c_5 => ?_) (fun c_5 => ?_)
          · replace h := (if_neg c_5).symm.trans h
            exact P48 (FX11_isSince_8 L n) ih _ _ _ _ _ _ _ h hB (lv_sub hl [0, 1, 2, 5] rfl)
          · replace h := (if_pos c_5).symm.trans h
            refine lv_aload_n S.1 S.2.1 dX11_isSince_22 rfl (lv_at hl 0 rfl) ?_
            refine lv_aload_n S.1 S.2.1 dX11_isSince_23 rfl (lv_at hl 0 rfl) ?_
            refine mg_second S hK hB wf_X11_32 dX11_isSince_24 ?_
            refine lv_iload_n S.1 S.2.1 dX11_isSince_27 rfl (lv_at hl 1 rfl) ?_
            obtain ⟨b_8, h⟩ := gd h
            refine ml_second (v := (σ1.2.1 11 x1.toNatClampNeg)) S hK hB b_8 rfl dX11_isSince_28 ?_
            refine lv_iload S.1 S.2.1 dX11_isSince_29 (lv_at hl 5 rfl) ?_
            obtain ⟨r_9, σ_9, e_9, h⟩ := b2s h
            refine mCallI S hK hc hKS hA (kX11_holds hc e_9) (cwX11_407 S.2.2.2.2 (rm := rmX11_holds) rfl rfl ⟨Nat.le_of_ble_eq_true rfl, Nat.le_of_ble_eq_true rfl⟩) hB rfl hl.1 rfl (lv_room (Nat.le_of_ble_eq_true rfl)) dX11_isSince_31 ⟨Nat.zero_le _, Nat.zero_le _⟩ (fun H locs hB => ?_)
            refine lv_if_eq (tgt := 52) S.1 S.2.1 dX11_isSince_34 (by decide) (fun c_10 => ?_) (fun c_10 => ?_)
            · replace h := (if_pos c_10).symm.trans h
              exact P52 (FX11_isSince_8 L n) ih _ _ _ _ _ _ _ h hB (lv_sub hl [0, 1, 2, 5] rfl)
            · replace h := (if_neg c_10).symm.trans h
              refine lv_aload_n S.1 S.2.1 dX11_isSince_37 rfl (lv_at hl 0 rfl) ?_
              refine lv_iload_n S.1 S.2.1 dX11_isSince_38 rfl (lv_at hl 1 rfl) ?_
              refine lv_iload S.1 S.2.1 dX11_isSince_39 (lv_at hl 5 rfl) ?_
              refine lv_iload_n S.1 S.2.1 dX11_isSince_41 rfl (lv_at hl 2 rfl) ?_
              obtain ⟨r_11, σ_11, e_11, h⟩ := b2s h
              refine mCallI S hK hc hKS hA (kX11_isWithin hc e_11) (cwX11_410 S.2.2.2.2 (rm := rmX11_isWithin) rfl rfl ⟨Nat.le_of_ble_eq_true rfl, Nat.le_of_ble_eq_true rfl⟩) hB rfl hl.1 rfl (lv_room (Nat.le_of_ble_eq_true rfl)) dX11_isSince_42 ⟨Nat.zero_le _, Nat.zero_le _⟩ (fun H locs hB => ?_)
              refine lv_if_eq (tgt := 52) S.1 S.2.1 dX11_isSince_45 (by decide) (fun c_12 => ?_) (fun c_12 => ?_)
              · replace h := (if_pos c_12).symm.trans h
                exact P52 (FX11_isSince_8 L n) ih _ _ _ _ _ _ _ h hB (lv_sub hl [0, 1, 2, 5] rfl)
              · replace h := (if_neg c_12).symm.trans h
                exact P48 (FX11_isSince_8 L n) ih _ _ _ _ _ _ _ h hB (lv_sub hl [0, 1, 2, 5] rfl)
  refine lv_iconst (v := (0 : Int32)) S.1 S.2.1 dX11_isSince_0 (by decide) ?_
  refine lv_istore_n (lv' := [(3, .int (0 : Int32)), (0, .ref (ad 0)), (1, .int p0), (2, .int p1)]) S.1 S.2.1 dX11_isSince_1 rfl hl (by decide) rfl (fun ls hl => ?_)
  refine lv_iconst (v := (1 : Int32)) S.1 S.2.1 dX11_isSince_2 (by decide) ?_
  refine lv_istore (lv' := [(4, .int (1 : Int32)), (3, .int (0 : Int32)), (0, .ref (ad 0)), (1, .int p0), (2, .int p1)]) S.1 S.2.1 dX11_isSince_3 hl (by decide) rfl (fun ls hl => ?_)
  refine lv_iload_n S.1 S.2.1 dX11_isSince_5 rfl (lv_at hl 4 rfl) ?_
  refine lv_istore (lv' := [(5, .int p1), (4, .int (1 : Int32)), (3, .int (0 : Int32)), (0, .ref (ad 0)), (1, .int p0), (2, .int p1)]) S.1 S.2.1 dX11_isSince_6 hl (by decide) rfl (fun ls hl => ?_)
  exact P8  L _ _ _ _ _ _ _ _ _ h hB (lv_sub hl [3, 4, 5, 2, 1, 0] rfl)
def FX11_isTrue_190 (L : Nat)  : Nat → Int32 → Int32 → Int32 → Int32 → Int32 → MS → Option (Int32 × MS)
  | 0, _, _, _, _, _, _ => none
  | n+1, x1, x2, x3, x5, x6, σ1 =>
    if x2 < x6 then
      if (x5 ≠ 0 ∧ x5 ≠ 1) then none else
      some (x5, σ1)
    else
      if x5 = 0 then
        b2 (FX11_holds x3 x6 σ1) fun r_27 σ_27 =>
        if r_27 = 0 then
          (FX11_isTrue_190 L n) x1 x2 x3 (0 : Int32) (x6 + (1 : Int32)) σ_27
        else
          b2 (FX11_isWithin x1 x6 x2 σ_27) fun r_29 σ_29 =>
          if r_29 = 0 then
            (FX11_isTrue_190 L n) x1 x2 x3 (0 : Int32) (x6 + (1 : Int32)) σ_29
          else
            (FX11_isTrue_190 L n) x1 x2 x3 (1 : Int32) (x6 + (1 : Int32)) σ_29
      else
        (FX11_isTrue_190 L n) x1 x2 x3 (1 : Int32) (x6 + (1 : Int32)) σ1
def FX11_isTrue (L : Nat) (p0 : Int32) (p1 : Int32) (σ : MS) : Option (Int32 × MS) :=
  if (p0 < 0 ∨ 1203 ≤ p0.toNatClampNeg) then none else
  if (p0 < 0 ∨ 1203 ≤ p0.toNatClampNeg) then none else
  if (p0 < 0 ∨ 1203 ≤ p0.toNatClampNeg) then none else
  if (σ.2.1 9 p0.toNatClampNeg) = 0 then
    b2 (FX11_holds (σ.2.1 10 p0.toNatClampNeg) p1 σ) fun r_5 σ_5 =>
    if r_5 = 0 then
      some ((1 : Int32), σ_5)
    else
      some ((0 : Int32), σ_5)
  else if (σ.2.1 9 p0.toNatClampNeg) = 1 then
    if p1 ≤ 0 then
      some ((0 : Int32), σ)
    else
      b2 (FX11_holds (σ.2.1 10 p0.toNatClampNeg) (p1 - (1 : Int32)) σ) fun r_9 σ_9 =>
      if r_9 = 0 then
        some ((0 : Int32), σ_9)
      else
        some ((1 : Int32), σ_9)
  else if (σ.2.1 9 p0.toNatClampNeg) = 2 then
    b2 (FX11_holds (σ.2.1 10 p0.toNatClampNeg) p1 σ) fun r_12 σ_12 =>
    if r_12 = 0 then
      some ((0 : Int32), σ_12)
    else
      if p1 = 0 then
        some ((1 : Int32), σ_12)
      else
        b2 (FX11_holds (σ.2.1 10 p0.toNatClampNeg) (p1 - (1 : Int32)) σ_12) fun r_15 σ_15 =>
        if r_15 = 0 then
          some ((1 : Int32), σ_15)
        else
          some ((0 : Int32), σ_15)
  else if (σ.2.1 9 p0.toNatClampNeg) = 3 then
    b2 (FX11_holds (σ.2.1 10 p0.toNatClampNeg) p1 σ) fun r_18 σ_18 =>
    if r_18 = 0 then
      if p1 ≤ 0 then
        some ((0 : Int32), σ_18)
      else
        b2 (FX11_holds (σ.2.1 10 p0.toNatClampNeg) (p1 - (1 : Int32)) σ_18) fun r_21 σ_21 =>
        if r_21 = 0 then
          some ((0 : Int32), σ_21)
        else
          some ((1 : Int32), σ_21)
    else
      some ((0 : Int32), σ_18)
  else if (σ.2.1 9 p0.toNatClampNeg) = 4 then
    FX11_isTrue_190 L L p0 p1 (σ.2.1 10 p0.toNatClampNeg) (0 : Int32) (0 : Int32) σ
  else if (σ.2.1 9 p0.toNatClampNeg) = 5 then
    b2 (FX11_firstMiss L p0 p1 σ) fun r_32 σ_32 =>
    if r_32 = (-1 : Int32) then
      some ((1 : Int32), σ_32)
    else
      some ((0 : Int32), σ_32)
  else if (σ.2.1 9 p0.toNatClampNeg) = 6 then
    some ((1 : Int32), σ)
  else if (σ.2.1 9 p0.toNatClampNeg) = 7 then
    some ((0 : Int32), σ)
  else if (σ.2.1 9 p0.toNatClampNeg) = 8 then
    b2 (FX11_holds (σ.2.1 10 p0.toNatClampNeg) p1 σ) fun r_37 σ_37 =>
    if (r_37 ≠ 0 ∧ r_37 ≠ 1) then none else
    some (r_37, σ_37)
  else if (σ.2.1 9 p0.toNatClampNeg) = 9 then
    if (p0 < 0 ∨ 1203 ≤ p0.toNatClampNeg) then none else
    b2 (FX11_at (σ.2.1 10 p0.toNatClampNeg) p1 σ) fun r_41 σ_41 =>
    b2 (FX11_at (σ.2.1 11 p0.toNatClampNeg) p1 σ_41) fun r_42 σ_42 =>
    (FX11_compared (σ.2.1 12 p0.toNatClampNeg) r_41 r_42).bind fun r_43 =>
    if (r_43 ≠ 0 ∧ r_43 ≠ 1) then none else
    some (r_43, σ_42)
  else if (σ.2.1 9 p0.toNatClampNeg) = 10 then
    b2 (FX11_isSince L p0 p1 σ) fun r_46 σ_46 =>
    if (r_46 ≠ 0 ∧ r_46 ≠ 1) then none else
    some (r_46, σ_46)
  else if (σ.2.1 9 p0.toNatClampNeg) = 11 then
    b2 (FX11_holds (σ.2.1 10 p0.toNatClampNeg) p1 σ) fun r_49 σ_49 =>
    if r_49 = 0 then
      some ((0 : Int32), σ_49)
    else
      b2 (FX11_holds (σ.2.1 11 p0.toNatClampNeg) p1 σ_49) fun r_51 σ_51 =>
      if r_51 = 0 then
        some ((0 : Int32), σ_51)
      else
        some ((1 : Int32), σ_51)
  else if (σ.2.1 9 p0.toNatClampNeg) = 12 then
    b2 (FX11_holds (σ.2.1 10 p0.toNatClampNeg) p1 σ) fun r_54 σ_54 =>
    if r_54 = 0 then
      b2 (FX11_holds (σ.2.1 11 p0.toNatClampNeg) p1 σ_54) fun r_56 σ_56 =>
      if r_56 = 0 then
        some ((0 : Int32), σ_56)
      else
        some ((1 : Int32), σ_56)
    else
      some ((1 : Int32), σ_54)
  else 
    b2 (FX11_holds (σ.2.1 10 p0.toNatClampNeg) p1 σ) fun r_58 σ_58 =>
    if r_58 = 0 then
      some ((1 : Int32), σ_58)
    else
      b2 (FX11_holds (σ.2.1 11 p0.toNatClampNeg) p1 σ_58) fun r_60 σ_60 =>
      if r_60 = 0 then
        some ((0 : Int32), σ_60)
      else
        some ((1 : Int32), σ_60)
abbrev rmX11_isTrue : Room := { frames := 3, cells := 0, slots := 0, locals := 70 }
set_option maxRecDepth 100000 in
set_option maxHeartbeats 4000000 in
theorem kX11_isTrue {l : Launch} {D : va_G} {cI cJ : ClassId} {ad : Nat → Nat} {KS : (Nat → Prop) → State → Prop} {L : Nat} (hc : gC KS) {p0 : Int32} {p1 : Int32} {σ σ' : MS} {r : Int32} (h : FX11_isTrue L p0 p1 σ = some (r, σ')) : gMet l yX11_isTrue qX11_isTrue rmX11_isTrue 0 0 D vwCl [(cI, .int), (cJ, .long)] KS [.ref (ad 0), .int p0, .int p1] (MW cI cJ ad σ) (MW cI cJ ad σ') (some (.int r)) := by
  refine gMet.of (cc := cX11_isTrue) (maxL := 7) (ret := (some .boolean)) (by decide) rfl (Nat.le_of_ble_eq_true rfl) ?_
  intro p e s m args below meth c S hr hlk hnm hK hKS hA hB ls hl
  have hl : lv_has ls 7 [(0, .ref (ad 0)), (1, .int p0), (2, .int p1)] := hl
  replace S : CallFix p m c cX11_isTrue 7 s args (_ :: wsL_law) RX11 := S
  rw [FX11_isTrue] at h
  have P190 : ∀  (n : Nat), ∀ (x1 : Int32) (x2 : Int32) (x3 : Int32) (x5 : Int32) (x6 : Int32) (σ1 : MS) (H : Heap) (locs : List Loc) (ls : Array Slot), FX11_isTrue_190 L n x1 x2 x3 x5 x6 σ1 = some (r, σ') → gB D vwCl (va_A (MW cI cJ ad σ) s.heap.size) s.heap (MW cI cJ ad σ1) [] H locs → lv_has ls 7 [(0, .ref (ad 0)), (1, .int x1), (2, .int x2), (3, .int x3), (5, .int x5), (6, .int x6)] → W p l e rmX11_isTrue s m args below meth c H locs 0 0 (MQ below (gQ D vwCl (MW cI cJ ad σ) (MW cI cJ ad σ') (some (.int r)) s.heap.size) args s 0 0 (va_A (MW cI cJ ad σ) s.heap.size)) (F0 m 190 ls []) := by
    intro n
    induction n with
    | zero => intro x1 x2 x3 x5 x6 σ1 H locs ls h; simp only [FX11_isTrue_190] at h; cases h
    | succ n ih =>
      intro x1 x2 x3 x5 x6 σ1 H locs ls h hB hl
      rw [FX11_isTrue_190] at h
      refine lv_iload S.1 S.2.1 dX11_isTrue_190 (lv_at hl 5 rfl) ?_
      refine lv_iload_n S.1 S.2.1 dX11_isTrue_192 rfl (lv_at hl 2 rfl) ?_
      refine lv_icmp_gt (tgt := 235) S.1 S.2.1 dX11_isTrue_193 (by decide) (fun c_24 => ?_) (fun c_24 => ?_)
      · replace h := (if_pos c_24).symm.trans h
        refine lv_iload S.1 S.2.1 dX11_isTrue_235 (lv_at hl 4 rfl) ?_
        obtain ⟨z_25, h⟩ := gd h
        cases h
        exact gRetZ S.1 S.2.1 hr hlk hB (nzB z_25) dX11_isTrue_237
      · replace h := (if_neg c_24).symm.trans h
        refine lv_iload S.1 S.2.1 dX11_isTrue_196 (lv_at hl 4 rfl) ?_
        refine lv_if_ne (tgt := 222) S.1 S.2.1 dX11_isTrue_198 (by decide) (fun c_26 => ?_) (fun c_26 => ?_)
        · replace h := (if_neg c_26).symm.trans h
          refine lv_iconst (v := (1 : Int32)) S.1 S.2.1 dX11_isTrue_222 (by decide) ?_
          refine lv_goto (tgt := 227) S.1 S.2.1 dX11_isTrue_223 (by decide) ?_
          refine lv_istore (lv' := [(5, .int (1 : Int32)), (0, .ref (ad 0)), (1, .int x1), (2, .int x2), (3, .int x3), (6, .int x6)]) S.1 S.2.1 dX11_isTrue_227 hl (by decide) rfl (fun ls hl => ?_)
          refine lv_iinc (v := (x6 + (1 : Int32))) (lv' := [(6, .int (x6 + (1 : Int32))), (5, .int (1 : Int32)), (0, .ref (ad 0)), (1, .int x1), (2, .int x2), (3, .int x3)]) S.1 S.2.1 dX11_isTrue_229 hl (k := 5) rfl rfl (by decide) rfl (fun ls hl => ?_)
          refine lv_goto (tgt := 190) S.1 S.2.1 dX11_isTrue_232 (by decide) ?_
          exact ih _ _ _ _ _ _ _ _ _ h hB (lv_sub hl [2, 3, 4, 5, 1, 0] rfl)
        · replace h := (if_pos c_26).symm.trans h
          refine lv_aload_n S.1 S.2.1 dX11_isTrue_201 rfl (lv_at hl 0 rfl) ?_
          refine lv_iload_n S.1 S.2.1 dX11_isTrue_202 rfl (lv_at hl 3 rfl) ?_
          refine lv_iload S.1 S.2.1 dX11_isTrue_203 (lv_at hl 5 rfl) ?_
          obtain ⟨r_27, σ_27, e_27, h⟩ := b2s h
          refine mCallI S hK hc hKS hA (kX11_holds hc e_27) (cwX11_407 S.2.2.2.2 (rm := rmX11_holds) rfl rfl ⟨Nat.le_of_ble_eq_true rfl, Nat.le_of_ble_eq_true rfl⟩) hB rfl hl.1 rfl (lv_room (Nat.le_of_ble_eq_true rfl)) dX11_isTrue_205 ⟨Nat.zero_le _, Nat.zero_le _⟩ (fun H locs hB => ?_)
          refine lv_if_eq (tgt := 226) S.1 S.2.1 dX11_isTrue_208 (by decide) (fun c_28 => ?_) (fun c_28 => ?_)
          · replace h := (if_pos c_28).symm.trans h
            refine lv_iconst (v := (0 : Int32)) S.1 S.2.1 dX11_isTrue_226 (by decide) ?_
            refine lv_istore (lv' := [(5, .int (0 : Int32)), (0, .ref (ad 0)), (1, .int x1), (2, .int x2), (3, .int x3), (6, .int x6)]) S.1 S.2.1 dX11_isTrue_227 hl (by decide) rfl (fun ls hl => ?_)
            refine lv_iinc (v := (x6 + (1 : Int32))) (lv' := [(6, .int (x6 + (1 : Int32))), (5, .int (0 : Int32)), (0, .ref (ad 0)), (1, .int x1), (2, .int x2), (3, .int x3)]) S.1 S.2.1 dX11_isTrue_229 hl (k := 5) rfl rfl (by decide) rfl (fun ls hl => ?_)
            refine lv_goto (tgt := 190) S.1 S.2.1 dX11_isTrue_232 (by decide) ?_
            exact ih _ _ _ _ _ _ _ _ _ h hB (lv_sub hl [2, 3, 4, 5, 1, 0] rfl)
          · replace h := (if_neg c_28).symm.trans h
            refine lv_aload_n S.1 S.2.1 dX11_isTrue_211 rfl (lv_at hl 0 rfl) ?_
            refine lv_iload_n S.1 S.2.1 dX11_isTrue_212 rfl (lv_at hl 1 rfl) ?_
            refine lv_iload S.1 S.2.1 dX11_isTrue_213 (lv_at hl 5 rfl) ?_
            refine lv_iload_n S.1 S.2.1 dX11_isTrue_215 rfl (lv_at hl 2 rfl) ?_
            obtain ⟨r_29, σ_29, e_29, h⟩ := b2s h
            refine mCallI S hK hc hKS hA (kX11_isWithin hc e_29) (cwX11_410 S.2.2.2.2 (rm := rmX11_isWithin) rfl rfl ⟨Nat.le_of_ble_eq_true rfl, Nat.le_of_ble_eq_true rfl⟩) hB rfl hl.1 rfl (lv_room (Nat.le_of_ble_eq_true rfl)) dX11_isTrue_216 ⟨Nat.zero_le _, Nat.zero_le _⟩ (fun H locs hB => ?_)
            refine lv_if_eq (tgt := 226) S.1 S.2.1 dX11_isTrue_219 (by decide) (fun c_30 => ?_) (fun c_30 => ?_)
            · replace h := (if_pos c_30).symm.trans h
              refine lv_iconst (v := (0 : Int32)) S.1 S.2.1 dX11_isTrue_226 (by decide) ?_
              refine lv_istore (lv' := [(5, .int (0 : Int32)), (0, .ref (ad 0)), (1, .int x1), (2, .int x2), (3, .int x3), (6, .int x6)]) S.1 S.2.1 dX11_isTrue_227 hl (by decide) rfl (fun ls hl => ?_)
              refine lv_iinc (v := (x6 + (1 : Int32))) (lv' := [(6, .int (x6 + (1 : Int32))), (5, .int (0 : Int32)), (0, .ref (ad 0)), (1, .int x1), (2, .int x2), (3, .int x3)]) S.1 S.2.1 dX11_isTrue_229 hl (k := 5) rfl rfl (by decide) rfl (fun ls hl => ?_)
              refine lv_goto (tgt := 190) S.1 S.2.1 dX11_isTrue_232 (by decide) ?_
              exact ih _ _ _ _ _ _ _ _ _ h hB (lv_sub hl [2, 3, 4, 5, 1, 0] rfl)
            · replace h := (if_neg c_30).symm.trans h
              refine lv_iconst (v := (1 : Int32)) S.1 S.2.1 dX11_isTrue_222 (by decide) ?_
              refine lv_goto (tgt := 227) S.1 S.2.1 dX11_isTrue_223 (by decide) ?_
              refine lv_istore (lv' := [(5, .int (1 : Int32)), (0, .ref (ad 0)), (1, .int x1), (2, .int x2), (3, .int x3), (6, .int x6)]) S.1 S.2.1 dX11_isTrue_227 hl (by decide) rfl (fun ls hl => ?_)
              refine lv_iinc (v := (x6 + (1 : Int32))) (lv' := [(6, .int (x6 + (1 : Int32))), (5, .int (1 : Int32)), (0, .ref (ad 0)), (1, .int x1), (2, .int x2), (3, .int x3)]) S.1 S.2.1 dX11_isTrue_229 hl (k := 5) rfl rfl (by decide) rfl (fun ls hl => ?_)
              refine lv_goto (tgt := 190) S.1 S.2.1 dX11_isTrue_232 (by decide) ?_
              exact ih _ _ _ _ _ _ _ _ _ h hB (lv_sub hl [2, 3, 4, 5, 1, 0] rfl)
  refine lv_aload_n S.1 S.2.1 dX11_isTrue_0 rfl (lv_at hl 0 rfl) ?_
  refine mg_first S hK hB wf_X11_29 dX11_isTrue_1 ?_
  refine lv_iload_n S.1 S.2.1 dX11_isTrue_4 rfl (lv_at hl 1 rfl) ?_
  obtain ⟨b_1, h⟩ := gd h
  refine ml_first (v := (σ.2.1 10 p0.toNatClampNeg)) S hK hB b_1 rfl dX11_isTrue_5 ?_
  refine lv_istore_n (lv' := [(3, .int (σ.2.1 10 p0.toNatClampNeg)), (0, .ref (ad 0)), (1, .int p0), (2, .int p1)]) S.1 S.2.1 dX11_isTrue_6 rfl hl (by decide) rfl (fun ls hl => ?_)
  refine lv_aload_n S.1 S.2.1 dX11_isTrue_7 rfl (lv_at hl 1 rfl) ?_
  refine mg_second S hK hB wf_X11_32 dX11_isTrue_8 ?_
  refine lv_iload_n S.1 S.2.1 dX11_isTrue_11 rfl (lv_at hl 2 rfl) ?_
  obtain ⟨b_2, h⟩ := gd h
  refine ml_second (v := (σ.2.1 11 p0.toNatClampNeg)) S hK hB b_2 rfl dX11_isTrue_12 ?_
  refine lv_istore (lv' := [(4, .int (σ.2.1 11 p0.toNatClampNeg)), (3, .int (σ.2.1 10 p0.toNatClampNeg)), (0, .ref (ad 0)), (1, .int p0), (2, .int p1)]) S.1 S.2.1 dX11_isTrue_13 hl (by decide) rfl (fun ls hl => ?_)
  refine lv_aload_n S.1 S.2.1 dX11_isTrue_15 rfl (lv_at hl 2 rfl) ?_
  refine mg_kind S hK hB wf_X11_26 dX11_isTrue_16 ?_
  refine lv_iload_n S.1 S.2.1 dX11_isTrue_19 rfl (lv_at hl 3 rfl) ?_
  obtain ⟨b_3, h⟩ := gd h
  refine ml_kind (v := (σ.2.1 9 p0.toNatClampNeg)) S hK hB b_3 rfl dX11_isTrue_20 ?_
  by_cases c_4 : (σ.2.1 9 p0.toNatClampNeg) = 0
  · replace h := (if_pos c_4).symm.trans h
    refine lv_tableIn (off := 67) (tgt := 88) S.1 S.2.1 dX11_isTrue_21 (by rw [c_4]; decide) (by rw [c_4]; decide) (by rw [c_4]; rfl) (by decide) ?_
    refine lv_aload_n S.1 S.2.1 dX11_isTrue_88 rfl (lv_at hl 2 rfl) ?_
    refine lv_iload_n S.1 S.2.1 dX11_isTrue_89 rfl (lv_at hl 1 rfl) ?_
    refine lv_iload_n S.1 S.2.1 dX11_isTrue_90 rfl (lv_at hl 4 rfl) ?_
    obtain ⟨r_5, σ_5, e_5, h⟩ := b2s h
    refine mCallI S hK hc hKS hA (kX11_holds hc e_5) (cwX11_407 S.2.2.2.2 (rm := rmX11_holds) rfl rfl ⟨Nat.le_of_ble_eq_true rfl, Nat.le_of_ble_eq_true rfl⟩) hB rfl hl.1 rfl (lv_room (Nat.le_of_ble_eq_true rfl)) dX11_isTrue_91 ⟨Nat.zero_le _, Nat.zero_le _⟩ (fun H locs hB => ?_)
    refine lv_if_ne (tgt := 101) S.1 S.2.1 dX11_isTrue_94 (by decide) (fun c_6 => ?_) (fun c_6 => ?_)
    · replace h := (if_neg c_6).symm.trans h
      refine lv_iconst (v := (0 : Int32)) S.1 S.2.1 dX11_isTrue_101 (by decide) ?_
      cases h
      exact gRetZ S.1 S.2.1 hr hlk hB rfl dX11_isTrue_102
    · replace h := (if_pos c_6).symm.trans h
      refine lv_iconst (v := (1 : Int32)) S.1 S.2.1 dX11_isTrue_97 (by decide) ?_
      refine lv_goto (tgt := 102) S.1 S.2.1 dX11_isTrue_98 (by decide) ?_
      cases h
      exact gRetZ S.1 S.2.1 hr hlk hB rfl dX11_isTrue_102
  · replace h := (if_neg c_4).symm.trans h
    by_cases c_7 : (σ.2.1 9 p0.toNatClampNeg) = 1
    · replace h := (if_pos c_7).symm.trans h
      refine lv_tableIn (off := 82) (tgt := 103) S.1 S.2.1 dX11_isTrue_21 (by rw [c_7]; decide) (by rw [c_7]; decide) (by rw [c_7]; rfl) (by decide) ?_
      refine lv_iload_n S.1 S.2.1 dX11_isTrue_103 rfl (lv_at hl 4 rfl) ?_
      refine lv_if_le (tgt := 122) S.1 S.2.1 dX11_isTrue_104 (by decide) (fun c_8 => ?_) (fun c_8 => ?_)
      · replace h := (if_pos c_8).symm.trans h
        refine lv_iconst (v := (0 : Int32)) S.1 S.2.1 dX11_isTrue_122 (by decide) ?_
        cases h
        exact gRetZ S.1 S.2.1 hr hlk hB rfl dX11_isTrue_123
      · replace h := (if_neg c_8).symm.trans h
        refine lv_aload_n S.1 S.2.1 dX11_isTrue_107 rfl (lv_at hl 2 rfl) ?_
        refine lv_iload_n S.1 S.2.1 dX11_isTrue_108 rfl (lv_at hl 1 rfl) ?_
        refine lv_iload_n S.1 S.2.1 dX11_isTrue_109 rfl (lv_at hl 4 rfl) ?_
        refine lv_iconst (v := (1 : Int32)) S.1 S.2.1 dX11_isTrue_110 (by decide) ?_
        refine lv_isub S.1 S.2.1 dX11_isTrue_111 ?_
        obtain ⟨r_9, σ_9, e_9, h⟩ := b2s h
        refine mCallI S hK hc hKS hA (kX11_holds hc e_9) (cwX11_407 S.2.2.2.2 (rm := rmX11_holds) rfl rfl ⟨Nat.le_of_ble_eq_true rfl, Nat.le_of_ble_eq_true rfl⟩) hB rfl hl.1 rfl (lv_room (Nat.le_of_ble_eq_true rfl)) dX11_isTrue_112 ⟨Nat.zero_le _, Nat.zero_le _⟩ (fun H locs hB => ?_)
        refine lv_if_eq (tgt := 122) S.1 S.2.1 dX11_isTrue_115 (by decide) (fun c_10 => ?_) (fun c_10 => ?_)
        · replace h := (if_pos c_10).symm.trans h
          refine lv_iconst (v := (0 : Int32)) S.1 S.2.1 dX11_isTrue_122 (by decide) ?_
          cases h
          exact gRetZ S.1 S.2.1 hr hlk hB rfl dX11_isTrue_123
        · replace h := (if_neg c_10).symm.trans h
          refine lv_iconst (v := (1 : Int32)) S.1 S.2.1 dX11_isTrue_118 (by decide) ?_
          refine lv_goto (tgt := 123) S.1 S.2.1 dX11_isTrue_119 (by decide) ?_
          cases h
          exact gRetZ S.1 S.2.1 hr hlk hB rfl dX11_isTrue_123
    · replace h := (if_neg c_7).symm.trans h
      by_cases c_11 : (σ.2.1 9 p0.toNatClampNeg) = 2
      · replace h := (if_pos c_11).symm.trans h
        refine lv_tableIn (off := 103) (tgt := 124) S.1 S.2.1 dX11_isTrue_21 (by rw [c_11]; decide) (by rw [c_11]; decide) (by rw [c_11]; rfl) (by decide) ?_
        refine lv_aload_n S.1 S.2.1 dX11_isTrue_124 rfl (lv_at hl 2 rfl) ?_
        refine lv_iload_n S.1 S.2.1 dX11_isTrue_125 rfl (lv_at hl 1 rfl) ?_
        refine lv_iload_n S.1 S.2.1 dX11_isTrue_126 rfl (lv_at hl 4 rfl) ?_
        obtain ⟨r_12, σ_12, e_12, h⟩ := b2s h
        refine mCallI S hK hc hKS hA (kX11_holds hc e_12) (cwX11_407 S.2.2.2.2 (rm := rmX11_holds) rfl rfl ⟨Nat.le_of_ble_eq_true rfl, Nat.le_of_ble_eq_true rfl⟩) hB rfl hl.1 rfl (lv_room (Nat.le_of_ble_eq_true rfl)) dX11_isTrue_127 ⟨Nat.zero_le _, Nat.zero_le _⟩ (fun H locs hB => ?_)
        refine lv_if_eq (tgt := 152) S.1 S.2.1 dX11_isTrue_130 (by decide) (fun c_13 => ?_) (fun c_13 => ?_)
        · replace h := (if_pos c_13).symm.trans h
          refine lv_iconst (v := (0 : Int32)) S.1 S.2.1 dX11_isTrue_152 (by decide) ?_
          cases h
          exact gRetZ S.1 S.2.1 hr hlk hB rfl dX11_isTrue_153
        · replace h := (if_neg c_13).symm.trans h
          refine lv_iload_n S.1 S.2.1 dX11_isTrue_133 rfl (lv_at hl 4 rfl) ?_
          refine lv_if_eq (tgt := 148) S.1 S.2.1 dX11_isTrue_134 (by decide) (fun c_14 => ?_) (fun c_14 => ?_)
          · replace h := (if_pos c_14).symm.trans h
            refine lv_iconst (v := (1 : Int32)) S.1 S.2.1 dX11_isTrue_148 (by decide) ?_
            refine lv_goto (tgt := 153) S.1 S.2.1 dX11_isTrue_149 (by decide) ?_
            cases h
            exact gRetZ S.1 S.2.1 hr hlk hB rfl dX11_isTrue_153
          · replace h := (if_neg c_14).symm.trans h
            refine lv_aload_n S.1 S.2.1 dX11_isTrue_137 rfl (lv_at hl 2 rfl) ?_
            refine lv_iload_n S.1 S.2.1 dX11_isTrue_138 rfl (lv_at hl 1 rfl) ?_
            refine lv_iload_n S.1 S.2.1 dX11_isTrue_139 rfl (lv_at hl 4 rfl) ?_
            refine lv_iconst (v := (1 : Int32)) S.1 S.2.1 dX11_isTrue_140 (by decide) ?_
            refine lv_isub S.1 S.2.1 dX11_isTrue_141 ?_
            obtain ⟨r_15, σ_15, e_15, h⟩ := b2s h
            refine mCallI S hK hc hKS hA (kX11_holds hc e_15) (cwX11_407 S.2.2.2.2 (rm := rmX11_holds) rfl rfl ⟨Nat.le_of_ble_eq_true rfl, Nat.le_of_ble_eq_true rfl⟩) hB rfl hl.1 rfl (lv_room (Nat.le_of_ble_eq_true rfl)) dX11_isTrue_142 ⟨Nat.zero_le _, Nat.zero_le _⟩ (fun H locs hB => ?_)
            refine lv_if_ne (tgt := 152) S.1 S.2.1 dX11_isTrue_145 (by decide) (fun c_16 => ?_) (fun c_16 => ?_)
            · replace h := (if_neg c_16).symm.trans h
              refine lv_iconst (v := (0 : Int32)) S.1 S.2.1 dX11_isTrue_152 (by decide) ?_
              cases h
              exact gRetZ S.1 S.2.1 hr hlk hB rfl dX11_isTrue_153
            · replace h := (if_pos c_16).symm.trans h
              refine lv_iconst (v := (1 : Int32)) S.1 S.2.1 dX11_isTrue_148 (by decide) ?_
              refine lv_goto (tgt := 153) S.1 S.2.1 dX11_isTrue_149 (by decide) ?_
              cases h
              exact gRetZ S.1 S.2.1 hr hlk hB rfl dX11_isTrue_153
      · replace h := (if_neg c_11).symm.trans h
        by_cases c_17 : (σ.2.1 9 p0.toNatClampNeg) = 3
        · replace h := (if_pos c_17).symm.trans h
          refine lv_tableIn (off := 133) (tgt := 154) S.1 S.2.1 dX11_isTrue_21 (by rw [c_17]; decide) (by rw [c_17]; decide) (by rw [c_17]; rfl) (by decide) ?_
          refine lv_aload_n S.1 S.2.1 dX11_isTrue_154 rfl (lv_at hl 2 rfl) ?_
          refine lv_iload_n S.1 S.2.1 dX11_isTrue_155 rfl (lv_at hl 1 rfl) ?_
          refine lv_iload_n S.1 S.2.1 dX11_isTrue_156 rfl (lv_at hl 4 rfl) ?_
          obtain ⟨r_18, σ_18, e_18, h⟩ := b2s h
          refine mCallI S hK hc hKS hA (kX11_holds hc e_18) (cwX11_407 S.2.2.2.2 (rm := rmX11_holds) rfl rfl ⟨Nat.le_of_ble_eq_true rfl, Nat.le_of_ble_eq_true rfl⟩) hB rfl hl.1 rfl (lv_room (Nat.le_of_ble_eq_true rfl)) dX11_isTrue_157 ⟨Nat.zero_le _, Nat.zero_le _⟩ (fun H locs hB => ?_)
          refine lv_if_ne (tgt := 182) S.1 S.2.1 dX11_isTrue_160 (by decide) (fun c_19 => ?_) (fun c_19 => ?_)
          · replace h := (if_neg c_19).symm.trans h
            refine lv_iconst (v := (0 : Int32)) S.1 S.2.1 dX11_isTrue_182 (by decide) ?_
            cases h
            exact gRetZ S.1 S.2.1 hr hlk hB rfl dX11_isTrue_183
          · replace h := (if_pos c_19).symm.trans h
            refine lv_iload_n S.1 S.2.1 dX11_isTrue_163 rfl (lv_at hl 4 rfl) ?_
            refine lv_if_le (tgt := 182) S.1 S.2.1 dX11_isTrue_164 (by decide) (fun c_20 => ?_) (fun c_20 => ?_)
            · replace h := (if_pos c_20).symm.trans h
              refine lv_iconst (v := (0 : Int32)) S.1 S.2.1 dX11_isTrue_182 (by decide) ?_
              cases h
              exact gRetZ S.1 S.2.1 hr hlk hB rfl dX11_isTrue_183
            · replace h := (if_neg c_20).symm.trans h
              refine lv_aload_n S.1 S.2.1 dX11_isTrue_167 rfl (lv_at hl 2 rfl) ?_
              refine lv_iload_n S.1 S.2.1 dX11_isTrue_168 rfl (lv_at hl 1 rfl) ?_
              refine lv_iload_n S.1 S.2.1 dX11_isTrue_169 rfl (lv_at hl 4 rfl) ?_
              refine lv_iconst (v := (1 : Int32)) S.1 S.2.1 dX11_isTrue_170 (by decide) ?_
              refine lv_isub S.1 S.2.1 dX11_isTrue_171 ?_
              obtain ⟨r_21, σ_21, e_21, h⟩ := b2s h
              refine mCallI S hK hc hKS hA (kX11_holds hc e_21) (cwX11_407 S.2.2.2.2 (rm := rmX11_holds) rfl rfl ⟨Nat.le_of_ble_eq_true rfl, Nat.le_of_ble_eq_true rfl⟩) hB rfl hl.1 rfl (lv_room (Nat.le_of_ble_eq_true rfl)) dX11_isTrue_172 ⟨Nat.zero_le _, Nat.zero_le _⟩ (fun H locs hB => ?_)
              refine lv_if_eq (tgt := 182) S.1 S.2.1 dX11_isTrue_175 (by decide) (fun c_22 => ?_) (fun c_22 => ?_)
              · replace h := (if_pos c_22).symm.trans h
                refine lv_iconst (v := (0 : Int32)) S.1 S.2.1 dX11_isTrue_182 (by decide) ?_
                cases h
                exact gRetZ S.1 S.2.1 hr hlk hB rfl dX11_isTrue_183
              · replace h := (if_neg c_22).symm.trans h
                refine lv_iconst (v := (1 : Int32)) S.1 S.2.1 dX11_isTrue_178 (by decide) ?_
                refine lv_goto (tgt := 183) S.1 S.2.1 dX11_isTrue_179 (by decide) ?_
                cases h
                exact gRetZ S.1 S.2.1 hr hlk hB rfl dX11_isTrue_183
        · replace h := (if_neg c_17).symm.trans h
          by_cases c_23 : (σ.2.1 9 p0.toNatClampNeg) = 4
          · replace h := (if_pos c_23).symm.trans h
            refine lv_tableIn (off := 163) (tgt := 184) S.1 S.2.1 dX11_isTrue_21 (by rw [c_23]; decide) (by rw [c_23]; decide) (by rw [c_23]; rfl) (by decide) ?_
            refine lv_iconst (v := (0 : Int32)) S.1 S.2.1 dX11_isTrue_184 (by decide) ?_
            refine lv_istore (lv' := [(5, .int (0 : Int32)), (4, .int (σ.2.1 11 p0.toNatClampNeg)), (3, .int (σ.2.1 10 p0.toNatClampNeg)), (0, .ref (ad 0)), (1, .int p0), (2, .int p1)]) S.1 S.2.1 dX11_isTrue_185 hl (by decide) rfl (fun ls hl => ?_)
            refine lv_iconst (v := (0 : Int32)) S.1 S.2.1 dX11_isTrue_187 (by decide) ?_
            refine lv_istore (lv' := [(6, .int (0 : Int32)), (5, .int (0 : Int32)), (4, .int (σ.2.1 11 p0.toNatClampNeg)), (3, .int (σ.2.1 10 p0.toNatClampNeg)), (0, .ref (ad 0)), (1, .int p0), (2, .int p1)]) S.1 S.2.1 dX11_isTrue_188 hl (by decide) rfl (fun ls hl => ?_)
            exact P190  L _ _ _ _ _ _ _ _ _ h hB (lv_sub hl [4, 5, 6, 3, 1, 0] rfl)
          · replace h := (if_neg c_23).symm.trans h
            by_cases c_31 : (σ.2.1 9 p0.toNatClampNeg) = 5
            · replace h := (if_pos c_31).symm.trans h
              refine lv_tableIn (off := 217) (tgt := 238) S.1 S.2.1 dX11_isTrue_21 (by rw [c_31]; decide) (by rw [c_31]; decide) (by rw [c_31]; rfl) (by decide) ?_
              refine lv_aload_n S.1 S.2.1 dX11_isTrue_238 rfl (lv_at hl 2 rfl) ?_
              refine lv_iload_n S.1 S.2.1 dX11_isTrue_239 rfl (lv_at hl 3 rfl) ?_
              refine lv_iload_n S.1 S.2.1 dX11_isTrue_240 rfl (lv_at hl 4 rfl) ?_
              obtain ⟨r_32, σ_32, e_32, h⟩ := b2s h
              refine mCallI S hK hc hKS hA (kX11_firstMiss hc e_32) (cwX11_413 S.2.2.2.2 (rm := rmX11_firstMiss) rfl rfl ⟨Nat.le_of_ble_eq_true rfl, Nat.le_of_ble_eq_true rfl⟩) hB rfl hl.1 rfl (lv_room (Nat.le_of_ble_eq_true rfl)) dX11_isTrue_241 ⟨Nat.zero_le _, Nat.zero_le _⟩ (fun H locs hB => ?_)
              refine lv_iconst (v := (-1 : Int32)) S.1 S.2.1 dX11_isTrue_244 (by decide) ?_
              refine lv_icmp_ne (tgt := 252) S.1 S.2.1 dX11_isTrue_245 (by decide) (fun c_33 => ?_) (fun c_33 => ?_)
              · replace h := (if_neg c_33).symm.trans h
                refine lv_iconst (v := (0 : Int32)) S.1 S.2.1 dX11_isTrue_252 (by decide) ?_
                cases h
                exact gRetZ S.1 S.2.1 hr hlk hB rfl dX11_isTrue_253
              · replace h := (if_pos c_33).symm.trans h
                refine lv_iconst (v := (1 : Int32)) S.1 S.2.1 dX11_isTrue_248 (by decide) ?_
                refine lv_goto (tgt := 253) S.1 S.2.1 dX11_isTrue_249 (by decide) ?_
                cases h
                exact gRetZ S.1 S.2.1 hr hlk hB rfl dX11_isTrue_253
            · replace h := (if_neg c_31).symm.trans h
              by_cases c_34 : (σ.2.1 9 p0.toNatClampNeg) = 6
              · replace h := (if_pos c_34).symm.trans h
                refine lv_tableIn (off := 233) (tgt := 254) S.1 S.2.1 dX11_isTrue_21 (by rw [c_34]; decide) (by rw [c_34]; decide) (by rw [c_34]; rfl) (by decide) ?_
                refine lv_iconst (v := (1 : Int32)) S.1 S.2.1 dX11_isTrue_254 (by decide) ?_
                cases h
                exact gRetZ S.1 S.2.1 hr hlk hB rfl dX11_isTrue_255
              · replace h := (if_neg c_34).symm.trans h
                by_cases c_35 : (σ.2.1 9 p0.toNatClampNeg) = 7
                · replace h := (if_pos c_35).symm.trans h
                  refine lv_tableIn (off := 235) (tgt := 256) S.1 S.2.1 dX11_isTrue_21 (by rw [c_35]; decide) (by rw [c_35]; decide) (by rw [c_35]; rfl) (by decide) ?_
                  refine lv_iconst (v := (0 : Int32)) S.1 S.2.1 dX11_isTrue_256 (by decide) ?_
                  cases h
                  exact gRetZ S.1 S.2.1 hr hlk hB rfl dX11_isTrue_257
                · replace h := (if_neg c_35).symm.trans h
                  by_cases c_36 : (σ.2.1 9 p0.toNatClampNeg) = 8
                  · replace h := (if_pos c_36).symm.trans h
                    refine lv_tableIn (off := 237) (tgt := 258) S.1 S.2.1 dX11_isTrue_21 (by rw [c_36]; decide) (by rw [c_36]; decide) (by rw [c_36]; rfl) (by decide) ?_
                    refine lv_aload_n S.1 S.2.1 dX11_isTrue_258 rfl (lv_at hl 2 rfl) ?_
                    refine lv_iload_n S.1 S.2.1 dX11_isTrue_259 rfl (lv_at hl 1 rfl) ?_
                    refine lv_iload_n S.1 S.2.1 dX11_isTrue_260 rfl (lv_at hl 4 rfl) ?_
                    obtain ⟨r_37, σ_37, e_37, h⟩ := b2s h
                    refine mCallI S hK hc hKS hA (kX11_holds hc e_37) (cwX11_407 S.2.2.2.2 (rm := rmX11_holds) rfl rfl ⟨Nat.le_of_ble_eq_true rfl, Nat.le_of_ble_eq_true rfl⟩) hB rfl hl.1 rfl (lv_room (Nat.le_of_ble_eq_true rfl)) dX11_isTrue_261 ⟨Nat.zero_le _, Nat.zero_le _⟩ (fun H locs hB => ?_)
                    obtain ⟨z_38, h⟩ := gd h
                    cases h
                    exact gRetZ S.1 S.2.1 hr hlk hB (nzB z_38) dX11_isTrue_264
                  · replace h := (if_neg c_36).symm.trans h
                    by_cases c_39 : (σ.2.1 9 p0.toNatClampNeg) = 9
                    · replace h := (if_pos c_39).symm.trans h
                      refine lv_tableIn (off := 244) (tgt := 265) S.1 S.2.1 dX11_isTrue_21 (by rw [c_39]; decide) (by rw [c_39]; decide) (by rw [c_39]; rfl) (by decide) ?_
                      refine lv_aload_n S.1 S.2.1 dX11_isTrue_265 rfl (lv_at hl 2 rfl) ?_
                      refine mg_third S hK hB wf_X11_35 dX11_isTrue_266 ?_
                      refine lv_iload_n S.1 S.2.1 dX11_isTrue_269 rfl (lv_at hl 3 rfl) ?_
                      obtain ⟨b_40, h⟩ := gd h
                      refine ml_third (v := (σ.2.1 12 p0.toNatClampNeg)) S hK hB b_40 rfl dX11_isTrue_270 ?_
                      refine lv_aload_n S.1 S.2.1 dX11_isTrue_271 rfl (lv_at hl 2 rfl) ?_
                      refine lv_iload_n S.1 S.2.1 dX11_isTrue_272 rfl (lv_at hl 1 rfl) ?_
                      refine lv_iload_n S.1 S.2.1 dX11_isTrue_273 rfl (lv_at hl 4 rfl) ?_
                      obtain ⟨r_41, σ_41, e_41, h⟩ := b2s h
                      refine mCallL S hK hc hKS hA (kX11_at hc e_41) (cwX11_393 S.2.2.2.2 (rm := rmX11_at) rfl rfl ⟨Nat.le_of_ble_eq_true rfl, Nat.le_of_ble_eq_true rfl⟩) hB rfl hl.1 rfl (lv_room (Nat.le_of_ble_eq_true rfl)) dX11_isTrue_274 ⟨Nat.zero_le _, Nat.zero_le _⟩ (fun H locs hB => ?_)
                      refine lv_aload_n S.1 S.2.1 dX11_isTrue_277 rfl (lv_at hl 2 rfl) ?_
                      refine lv_iload S.1 S.2.1 dX11_isTrue_278 (lv_at hl 0 rfl) ?_
                      refine lv_iload_n S.1 S.2.1 dX11_isTrue_280 rfl (lv_at hl 4 rfl) ?_
                      obtain ⟨r_42, σ_42, e_42, h⟩ := b2s h
                      refine mCallL S hK hc hKS hA (kX11_at hc e_42) (cwX11_393 S.2.2.2.2 (rm := rmX11_at) rfl rfl ⟨Nat.le_of_ble_eq_true rfl, Nat.le_of_ble_eq_true rfl⟩) hB rfl hl.1 rfl (lv_room (Nat.le_of_ble_eq_true rfl)) dX11_isTrue_281 ⟨Nat.zero_le _, Nat.zero_le _⟩ (fun H locs hB => ?_)
                      obtain ⟨r_43, e_43, h⟩ := bnd h
                      refine mCallSI S hK hc hKS hA (kX11_compared hc e_43) (cwX11_416 S.2.2.2.2 (rm := rmX11_compared) rfl rfl ⟨Nat.le_of_ble_eq_true rfl, Nat.le_of_ble_eq_true rfl⟩) hB rfl hl.1 rfl (lv_room (Nat.le_of_ble_eq_true rfl)) dX11_isTrue_284 ⟨Nat.zero_le _, Nat.zero_le _⟩ (fun H locs hB => ?_)
                      obtain ⟨z_44, h⟩ := gd h
                      cases h
                      exact gRetZ S.1 S.2.1 hr hlk hB (nzB z_44) dX11_isTrue_287
                    · replace h := (if_neg c_39).symm.trans h
                      by_cases c_45 : (σ.2.1 9 p0.toNatClampNeg) = 10
                      · replace h := (if_pos c_45).symm.trans h
                        refine lv_tableIn (off := 267) (tgt := 288) S.1 S.2.1 dX11_isTrue_21 (by rw [c_45]; decide) (by rw [c_45]; decide) (by rw [c_45]; rfl) (by decide) ?_
                        refine lv_aload_n S.1 S.2.1 dX11_isTrue_288 rfl (lv_at hl 2 rfl) ?_
                        refine lv_iload_n S.1 S.2.1 dX11_isTrue_289 rfl (lv_at hl 3 rfl) ?_
                        refine lv_iload_n S.1 S.2.1 dX11_isTrue_290 rfl (lv_at hl 4 rfl) ?_
                        obtain ⟨r_46, σ_46, e_46, h⟩ := b2s h
                        refine mCallI S hK hc hKS hA (kX11_isSince hc e_46) (cwX11_420 S.2.2.2.2 (rm := rmX11_isSince) rfl rfl ⟨Nat.le_of_ble_eq_true rfl, Nat.le_of_ble_eq_true rfl⟩) hB rfl hl.1 rfl (lv_room (Nat.le_of_ble_eq_true rfl)) dX11_isTrue_291 ⟨Nat.zero_le _, Nat.zero_le _⟩ (fun H locs hB => ?_)
                        obtain ⟨z_47, h⟩ := gd h
                        cases h
                        exact gRetZ S.1 S.2.1 hr hlk hB (nzB z_47) dX11_isTrue_294
                      · replace h := (if_neg c_45).symm.trans h
                        by_cases c_48 : (σ.2.1 9 p0.toNatClampNeg) = 11
                        · replace h := (if_pos c_48).symm.trans h
                          refine lv_tableIn (off := 274) (tgt := 295) S.1 S.2.1 dX11_isTrue_21 (by rw [c_48]; decide) (by rw [c_48]; decide) (by rw [c_48]; rfl) (by decide) ?_
                          refine lv_aload_n S.1 S.2.1 dX11_isTrue_295 rfl (lv_at hl 2 rfl) ?_
                          refine lv_iload_n S.1 S.2.1 dX11_isTrue_296 rfl (lv_at hl 1 rfl) ?_
                          refine lv_iload_n S.1 S.2.1 dX11_isTrue_297 rfl (lv_at hl 4 rfl) ?_
                          obtain ⟨r_49, σ_49, e_49, h⟩ := b2s h
                          refine mCallI S hK hc hKS hA (kX11_holds hc e_49) (cwX11_407 S.2.2.2.2 (rm := rmX11_holds) rfl rfl ⟨Nat.le_of_ble_eq_true rfl, Nat.le_of_ble_eq_true rfl⟩) hB rfl hl.1 rfl (lv_room (Nat.le_of_ble_eq_true rfl)) dX11_isTrue_298 ⟨Nat.zero_le _, Nat.zero_le _⟩ (fun H locs hB => ?_)
                          refine lv_if_eq (tgt := 318) S.1 S.2.1 dX11_isTrue_301 (by decide) (fun c_50 => ?_) (fun c_50 => ?_)
                          · replace h := (if_pos c_50).symm.trans h
                            refine lv_iconst (v := (0 : Int32)) S.1 S.2.1 dX11_isTrue_318 (by decide) ?_
                            cases h
                            exact gRetZ S.1 S.2.1 hr hlk hB rfl dX11_isTrue_319
                          · replace h := (if_neg c_50).symm.trans h
                            refine lv_aload_n S.1 S.2.1 dX11_isTrue_304 rfl (lv_at hl 2 rfl) ?_
                            refine lv_iload S.1 S.2.1 dX11_isTrue_305 (lv_at hl 0 rfl) ?_
                            refine lv_iload_n S.1 S.2.1 dX11_isTrue_307 rfl (lv_at hl 4 rfl) ?_
                            obtain ⟨r_51, σ_51, e_51, h⟩ := b2s h
                            refine mCallI S hK hc hKS hA (kX11_holds hc e_51) (cwX11_407 S.2.2.2.2 (rm := rmX11_holds) rfl rfl ⟨Nat.le_of_ble_eq_true rfl, Nat.le_of_ble_eq_true rfl⟩) hB rfl hl.1 rfl (lv_room (Nat.le_of_ble_eq_true rfl)) dX11_isTrue_308 ⟨Nat.zero_le _, Nat.zero_le _⟩ (fun H locs hB => ?_)
                            refine lv_if_eq (tgt := 318) S.1 S.2.1 dX11_isTrue_311 (by decide) (fun c_52 => ?_) (fun c_52 => ?_)
                            · replace h := (if_pos c_52).symm.trans h
                              refine lv_iconst (v := (0 : Int32)) S.1 S.2.1 dX11_isTrue_318 (by decide) ?_
                              cases h
                              exact gRetZ S.1 S.2.1 hr hlk hB rfl dX11_isTrue_319
                            · replace h := (if_neg c_52).symm.trans h
                              refine lv_iconst (v := (1 : Int32)) S.1 S.2.1 dX11_isTrue_314 (by decide) ?_
                              refine lv_goto (tgt := 319) S.1 S.2.1 dX11_isTrue_315 (by decide) ?_
                              cases h
                              exact gRetZ S.1 S.2.1 hr hlk hB rfl dX11_isTrue_319
                        · replace h := (if_neg c_48).symm.trans h
                          by_cases c_53 : (σ.2.1 9 p0.toNatClampNeg) = 12
                          · replace h := (if_pos c_53).symm.trans h
                            refine lv_tableIn (off := 299) (tgt := 320) S.1 S.2.1 dX11_isTrue_21 (by rw [c_53]; decide) (by rw [c_53]; decide) (by rw [c_53]; rfl) (by decide) ?_
                            refine lv_aload_n S.1 S.2.1 dX11_isTrue_320 rfl (lv_at hl 2 rfl) ?_
                            refine lv_iload_n S.1 S.2.1 dX11_isTrue_321 rfl (lv_at hl 1 rfl) ?_
                            refine lv_iload_n S.1 S.2.1 dX11_isTrue_322 rfl (lv_at hl 4 rfl) ?_
                            obtain ⟨r_54, σ_54, e_54, h⟩ := b2s h
                            refine mCallI S hK hc hKS hA (kX11_holds hc e_54) (cwX11_407 S.2.2.2.2 (rm := rmX11_holds) rfl rfl ⟨Nat.le_of_ble_eq_true rfl, Nat.le_of_ble_eq_true rfl⟩) hB rfl hl.1 rfl (lv_room (Nat.le_of_ble_eq_true rfl)) dX11_isTrue_323 ⟨Nat.zero_le _, Nat.zero_le _⟩ (fun H locs hB => ?_)
                            refine lv_if_ne (tgt := 339) S.1 S.2.1 dX11_isTrue_326 (by decide) (fun c_55 => ?_) (fun c_55 => ?_)
                            · replace h := (if_neg c_55).symm.trans h
                              refine lv_iconst (v := (1 : Int32)) S.1 S.2.1 dX11_isTrue_339 (by decide) ?_
                              refine lv_goto (tgt := 344) S.1 S.2.1 dX11_isTrue_340 (by decide) ?_
                              cases h
                              exact gRetZ S.1 S.2.1 hr hlk hB rfl dX11_isTrue_344
                            · replace h := (if_pos c_55).symm.trans h
                              refine lv_aload_n S.1 S.2.1 dX11_isTrue_329 rfl (lv_at hl 2 rfl) ?_
                              refine lv_iload S.1 S.2.1 dX11_isTrue_330 (lv_at hl 0 rfl) ?_
                              refine lv_iload_n S.1 S.2.1 dX11_isTrue_332 rfl (lv_at hl 4 rfl) ?_
                              obtain ⟨r_56, σ_56, e_56, h⟩ := b2s h
                              refine mCallI S hK hc hKS hA (kX11_holds hc e_56) (cwX11_407 S.2.2.2.2 (rm := rmX11_holds) rfl rfl ⟨Nat.le_of_ble_eq_true rfl, Nat.le_of_ble_eq_true rfl⟩) hB rfl hl.1 rfl (lv_room (Nat.le_of_ble_eq_true rfl)) dX11_isTrue_333 ⟨Nat.zero_le _, Nat.zero_le _⟩ (fun H locs hB => ?_)
                              refine lv_if_eq (tgt := 343) S.1 S.2.1 dX11_isTrue_336 (by decide) (fun c_57 => ?_) (fun c_57 => ?_)
                              · replace h := (if_pos c_57).symm.trans h
                                refine lv_iconst (v := (0 : Int32)) S.1 S.2.1 dX11_isTrue_343 (by decide) ?_
                                cases h
                                exact gRetZ S.1 S.2.1 hr hlk hB rfl dX11_isTrue_344
                              · replace h := (if_neg c_57).symm.trans h
                                refine lv_iconst (v := (1 : Int32)) S.1 S.2.1 dX11_isTrue_339 (by decide) ?_
                                refine lv_goto (tgt := 344) S.1 S.2.1 dX11_isTrue_340 (by decide) ?_
                                cases h
                                exact gRetZ S.1 S.2.1 hr hlk hB rfl dX11_isTrue_344
                          · replace h := (if_neg c_53).symm.trans h
                            refine swT (tgt := 345) (cs := [0, 1, 2, 3, 4, 5, 6, 7, 8, 9, 10, 11, 12]) S.1 S.2.1 dX11_isTrue_21 (List.forall_mem_cons.mpr ⟨lv_neT c_4 (by decide), List.forall_mem_cons.mpr ⟨lv_neT c_7 (by decide), List.forall_mem_cons.mpr ⟨lv_neT c_11 (by decide), List.forall_mem_cons.mpr ⟨lv_neT c_17 (by decide), List.forall_mem_cons.mpr ⟨lv_neT c_23 (by decide), List.forall_mem_cons.mpr ⟨lv_neT c_31 (by decide), List.forall_mem_cons.mpr ⟨lv_neT c_34 (by decide), List.forall_mem_cons.mpr ⟨lv_neT c_35 (by decide), List.forall_mem_cons.mpr ⟨lv_neT c_36 (by decide), List.forall_mem_cons.mpr ⟨lv_neT c_39 (by decide), List.forall_mem_cons.mpr ⟨lv_neT c_45 (by decide), List.forall_mem_cons.mpr ⟨lv_neT c_48 (by decide), List.forall_mem_cons.mpr ⟨lv_neT c_53 (by decide), List.forall_mem_nil _⟩⟩⟩⟩⟩⟩⟩⟩⟩⟩⟩⟩⟩) (by decide) (by decide) (by decide) ?_
                            refine lv_aload_n S.1 S.2.1 dX11_isTrue_345 rfl (lv_at hl 2 rfl) ?_
                            refine lv_iload_n S.1 S.2.1 dX11_isTrue_346 rfl (lv_at hl 1 rfl) ?_
                            refine lv_iload_n S.1 S.2.1 dX11_isTrue_347 rfl (lv_at hl 4 rfl) ?_
                            obtain ⟨r_58, σ_58, e_58, h⟩ := b2s h
                            refine mCallI S hK hc hKS hA (kX11_holds hc e_58) (cwX11_407 S.2.2.2.2 (rm := rmX11_holds) rfl rfl ⟨Nat.le_of_ble_eq_true rfl, Nat.le_of_ble_eq_true rfl⟩) hB rfl hl.1 rfl (lv_room (Nat.le_of_ble_eq_true rfl)) dX11_isTrue_348 ⟨Nat.zero_le _, Nat.zero_le _⟩ (fun H locs hB => ?_)
                            refine lv_if_eq (tgt := 364) S.1 S.2.1 dX11_isTrue_351 (by decide) (fun c_59 => ?_) (fun c_59 => ?_)
                            · replace h := (if_pos c_59).symm.trans h
                              refine lv_iconst (v := (1 : Int32)) S.1 S.2.1 dX11_isTrue_364 (by decide) ?_
                              refine lv_goto (tgt := 369) S.1 S.2.1 dX11_isTrue_365 (by decide) ?_
                              cases h
                              exact gRetZ S.1 S.2.1 hr hlk hB rfl dX11_isTrue_369
                            · replace h := (if_neg c_59).symm.trans h
                              refine lv_aload_n S.1 S.2.1 dX11_isTrue_354 rfl (lv_at hl 2 rfl) ?_
                              refine lv_iload S.1 S.2.1 dX11_isTrue_355 (lv_at hl 0 rfl) ?_
                              refine lv_iload_n S.1 S.2.1 dX11_isTrue_357 rfl (lv_at hl 4 rfl) ?_
                              obtain ⟨r_60, σ_60, e_60, h⟩ := b2s h
                              refine mCallI S hK hc hKS hA (kX11_holds hc e_60) (cwX11_407 S.2.2.2.2 (rm := rmX11_holds) rfl rfl ⟨Nat.le_of_ble_eq_true rfl, Nat.le_of_ble_eq_true rfl⟩) hB rfl hl.1 rfl (lv_room (Nat.le_of_ble_eq_true rfl)) dX11_isTrue_358 ⟨Nat.zero_le _, Nat.zero_le _⟩ (fun H locs hB => ?_)
                              refine lv_if_eq (tgt := 368) S.1 S.2.1 dX11_isTrue_361 (by decide) (fun c_61 => ?_) (fun c_61 => ?_)
                              · replace h := (if_pos c_61).symm.trans h
                                refine lv_iconst (v := (0 : Int32)) S.1 S.2.1 dX11_isTrue_368 (by decide) ?_
                                cases h
                                exact gRetZ S.1 S.2.1 hr hlk hB rfl dX11_isTrue_369
                              · replace h := (if_neg c_61).symm.trans h
                                refine lv_iconst (v := (1 : Int32)) S.1 S.2.1 dX11_isTrue_364 (by decide) ?_
                                refine lv_goto (tgt := 369) S.1 S.2.1 dX11_isTrue_365 (by decide) ?_
                                cases h
                                exact gRetZ S.1 S.2.1 hr hlk hB rfl dX11_isTrue_369
def FX11_worth_161 (L : Nat)  : Nat → Int32 → Int32 → Int64 → Int32 → MS → Option (Int64 × MS)
  | 0, _, _, _, _, _ => none
  | n+1, x2, x3, x4, x6, σ1 =>
    if x2 < x6 then
      some (x4, σ1)
    else
      b2 (FX11_at x3 x6 σ1) fun r_27 σ_27 =>
      (FX11_worth_161 L n) x2 x3 (x4 + r_27) (x6 + (1 : Int32)) σ_27
def FX11_worth (L : Nat) (p0 : Int32) (p1 : Int32) (σ : MS) : Option (Int64 × MS) :=
  if (p0 < 0 ∨ 1203 ≤ p0.toNatClampNeg) then none else
  if (p0 < 0 ∨ 1203 ≤ p0.toNatClampNeg) then none else
  if (σ.2.1 9 p0.toNatClampNeg) = 20 then
    some ((σ.2.1 10 p0.toNatClampNeg).toInt64, σ)
  else if (σ.2.1 9 p0.toNatClampNeg) = 21 then
    if ((((8 : Int32) * p1) + (σ.2.1 10 p0.toNatClampNeg)) < 0 ∨ 960 ≤ (((8 : Int32) * p1) + (σ.2.1 10 p0.toNatClampNeg)).toNatClampNeg) then none else
    some ((σ.2.2 31 (((8 : Int32) * p1) + (σ.2.1 10 p0.toNatClampNeg)).toNatClampNeg), σ)
  else if (σ.2.1 9 p0.toNatClampNeg) = 22 then
    b2 (FX11_at (σ.2.1 10 p0.toNatClampNeg) p1 σ) fun r_7 σ_7 =>
    some (r_7, σ_7)
  else if (σ.2.1 9 p0.toNatClampNeg) = 23 then
    if (p1 < 0 ∨ 120 ≤ p1.toNatClampNeg) then none else
    some ((σ.2.1 30 p1.toNatClampNeg).toInt64, σ)
  else if (σ.2.1 9 p0.toNatClampNeg) = 24 then
    some (p1.toInt64, σ)
  else if (σ.2.1 9 p0.toNatClampNeg) = 25 then
    b2 (FX11_at (σ.2.1 10 p0.toNatClampNeg) p1 σ) fun r_12 σ_12 =>
    some ((-r_12), σ_12)
  else if (σ.2.1 9 p0.toNatClampNeg) = 26 then
    if p1 = 0 then
      some ((0 : Int64), σ)
    else
      b2 (FX11_at (σ.2.1 10 p0.toNatClampNeg) (p1 - (1 : Int32)) σ) fun r_15 σ_15 =>
      some (r_15, σ_15)
  else if (σ.2.1 9 p0.toNatClampNeg) = 27 then
    if (p0 < 0 ∨ 1203 ≤ p0.toNatClampNeg) then none else
    b2 (FX11_overAll L (σ.2.1 9 p0.toNatClampNeg) (σ.2.1 10 p0.toNatClampNeg) p1 σ) fun r_18 σ_18 =>
    some (r_18, σ_18)
  else if (σ.2.1 9 p0.toNatClampNeg) = 28 then
    if (p0 < 0 ∨ 1203 ≤ p0.toNatClampNeg) then none else
    b2 (FX11_overAll L (σ.2.1 9 p0.toNatClampNeg) (σ.2.1 10 p0.toNatClampNeg) p1 σ) fun r_21 σ_21 =>
    some (r_21, σ_21)
  else if (σ.2.1 9 p0.toNatClampNeg) = 29 then
    if (p0 < 0 ∨ 1203 ≤ p0.toNatClampNeg) then none else
    b2 (FX11_overAll L (σ.2.1 9 p0.toNatClampNeg) (σ.2.1 10 p0.toNatClampNeg) p1 σ) fun r_24 σ_24 =>
    some (r_24, σ_24)
  else if (σ.2.1 9 p0.toNatClampNeg) = 30 then
    FX11_worth_161 L L p1 (σ.2.1 10 p0.toNatClampNeg) (0 : Int64) (0 : Int32) σ
  else if (σ.2.1 9 p0.toNatClampNeg) = 31 then
    b2 (FX11_lastHolding L (σ.2.1 10 p0.toNatClampNeg) p1 σ) fun r_29 σ_29 =>
    if r_29 = (-1 : Int32) then
      some ((-1 : Int64), σ_29)
    else
      if (p1 < 0 ∨ 120 ≤ p1.toNatClampNeg) then none else
      b2 (FX11_lastHolding L (σ.2.1 10 p0.toNatClampNeg) p1 σ_29) fun r_32 σ_32 =>
      if (r_32 < 0 ∨ 120 ≤ r_32.toNatClampNeg) then none else
      some (((σ_29.2.1 30 p1.toNatClampNeg) - (σ_32.2.1 30 r_32.toNatClampNeg)).toInt64, σ_32)
  else if (σ.2.1 9 p0.toNatClampNeg) = 32 then
    b2 (FX11_lastHolding L (σ.2.1 10 p0.toNatClampNeg) p1 σ) fun r_35 σ_35 =>
    if r_35 = (-1 : Int32) then
      some ((0 : Int64), σ_35)
    else
      if (p0 < 0 ∨ 1203 ≤ p0.toNatClampNeg) then none else
      b2 (FX11_lastHolding L (σ.2.1 10 p0.toNatClampNeg) p1 σ_35) fun r_38 σ_38 =>
      b2 (FX11_at (σ_35.2.1 11 p0.toNatClampNeg) r_38 σ_38) fun r_39 σ_39 =>
      some (r_39, σ_39)
  else if (σ.2.1 9 p0.toNatClampNeg) = 33 then
    b2 (FX11_holds (σ.2.1 10 p0.toNatClampNeg) p1 σ) fun r_41 σ_41 =>
    if r_41 = 0 then
      if (p0 < 0 ∨ 1203 ≤ p0.toNatClampNeg) then none else
      b2 (FX11_at (σ_41.2.1 12 p0.toNatClampNeg) p1 σ_41) fun r_44 σ_44 =>
      some (r_44, σ_44)
    else
      if (p0 < 0 ∨ 1203 ≤ p0.toNatClampNeg) then none else
      b2 (FX11_at (σ_41.2.1 11 p0.toNatClampNeg) p1 σ_41) fun r_46 σ_46 =>
      some (r_46, σ_46)
  else 
    if (p0 < 0 ∨ 1203 ≤ p0.toNatClampNeg) then none else
    b2 (FX11_at (σ.2.1 10 p0.toNatClampNeg) p1 σ) fun r_48 σ_48 =>
    if (p0 < 0 ∨ 1203 ≤ p0.toNatClampNeg) then none else
    b2 (FX11_at (σ_48.2.1 11 p0.toNatClampNeg) p1 σ_48) fun r_50 σ_50 =>
    (FX11_both (σ.2.1 12 p0.toNatClampNeg) r_48 r_50).bind fun r_51 =>
    some (r_51, σ_50)
abbrev rmX11_worth : Room := { frames := 3, cells := 0, slots := 0, locals := 68 }
set_option maxRecDepth 100000 in
set_option maxHeartbeats 4000000 in
theorem kX11_worth {l : Launch} {D : va_G} {cI cJ : ClassId} {ad : Nat → Nat} {KS : (Nat → Prop) → State → Prop} {L : Nat} (hc : gC KS) {p0 : Int32} {p1 : Int32} {σ σ' : MS} {r : Int64} (h : FX11_worth L p0 p1 σ = some (r, σ')) : gMet l yX11_worth qX11_worth rmX11_worth 0 0 D vwCl [(cI, .int), (cJ, .long)] KS [.ref (ad 0), .int p0, .int p1] (MW cI cJ ad σ) (MW cI cJ ad σ') (some (.long r)) := by
  refine gMet.of (cc := cX11_worth) (maxL := 7) (ret := (some .long)) (by decide) rfl (Nat.le_of_ble_eq_true rfl) ?_
  intro p e s m args below meth c S hr hlk hnm hK hKS hA hB ls hl
  have hl : lv_has ls 7 [(0, .ref (ad 0)), (1, .int p0), (2, .int p1)] := hl
  replace S : CallFix p m c cX11_worth 7 s args (_ :: wsL_law) RX11 := S
  rw [FX11_worth] at h
  have P161 : ∀  (n : Nat), ∀ (x2 : Int32) (x3 : Int32) (x4 : Int64) (x6 : Int32) (σ1 : MS) (H : Heap) (locs : List Loc) (ls : Array Slot), FX11_worth_161 L n x2 x3 x4 x6 σ1 = some (r, σ') → gB D vwCl (va_A (MW cI cJ ad σ) s.heap.size) s.heap (MW cI cJ ad σ1) [] H locs → lv_has ls 7 [(0, .ref (ad 0)), (2, .int x2), (3, .int x3), (4, .long x4), (6, .int x6)] → W p l e rmX11_worth s m args below meth c H locs 0 0 (MQ below (gQ D vwCl (MW cI cJ ad σ) (MW cI cJ ad σ') (some (.long r)) s.heap.size) args s 0 0 (va_A (MW cI cJ ad σ) s.heap.size)) (F0 m 161 ls []) := by
    intro n
    induction n with
    | zero => intro x2 x3 x4 x6 σ1 H locs ls h; simp only [FX11_worth_161] at h; cases h
    | succ n ih =>
      intro x2 x3 x4 x6 σ1 H locs ls h hB hl
      rw [FX11_worth_161] at h
      refine lv_iload S.1 S.2.1 dX11_worth_161 (lv_at hl 4 rfl) ?_
      refine lv_iload_n S.1 S.2.1 dX11_worth_163 rfl (lv_at hl 1 rfl) ?_
      refine lv_icmp_gt (tgt := 185) S.1 S.2.1 dX11_worth_164 (by decide) (fun c_26 => ?_) (fun c_26 => ?_)
      · replace h := (if_pos c_26).symm.trans h
        refine lv_lload S.1 S.2.1 dX11_worth_185 (lv_at hl 3 rfl) ?_
        cases h
        exact gRetL S.1 S.2.1 hr hlk hB dX11_worth_187
      · replace h := (if_neg c_26).symm.trans h
        refine lv_lload S.1 S.2.1 dX11_worth_167 (lv_at hl 3 rfl) ?_
        refine lv_aload_n S.1 S.2.1 dX11_worth_169 rfl (lv_at hl 0 rfl) ?_
        refine lv_iload_n S.1 S.2.1 dX11_worth_170 rfl (lv_at hl 2 rfl) ?_
        refine lv_iload S.1 S.2.1 dX11_worth_171 (lv_at hl 4 rfl) ?_
        obtain ⟨r_27, σ_27, e_27, h⟩ := b2s h
        refine mCallL S hK hc hKS hA (kX11_at hc e_27) (cwX11_393 S.2.2.2.2 (rm := rmX11_at) rfl rfl ⟨Nat.le_of_ble_eq_true rfl, Nat.le_of_ble_eq_true rfl⟩) hB rfl hl.1 rfl (lv_room (Nat.le_of_ble_eq_true rfl)) dX11_worth_173 ⟨Nat.zero_le _, Nat.zero_le _⟩ (fun H locs hB => ?_)
        refine lv_ladd S.1 S.2.1 dX11_worth_176 ?_
        refine lv_lstore (lv' := [(4, .long (x4 + r_27)), (0, .ref (ad 0)), (2, .int x2), (3, .int x3), (6, .int x6)]) S.1 S.2.1 dX11_worth_177 hl (by decide) rfl (fun ls hl => ?_)
        refine lv_iinc (v := (x6 + (1 : Int32))) (lv' := [(6, .int (x6 + (1 : Int32))), (4, .long (x4 + r_27)), (0, .ref (ad 0)), (2, .int x2), (3, .int x3)]) S.1 S.2.1 dX11_worth_179 hl (k := 4) rfl rfl (by decide) rfl (fun ls hl => ?_)
        refine lv_goto (tgt := 161) S.1 S.2.1 dX11_worth_182 (by decide) ?_
        exact ih _ _ _ _ _ _ _ _ h hB (lv_sub hl [2, 3, 4, 1, 0] rfl)
  refine lv_aload_n S.1 S.2.1 dX11_worth_0 rfl (lv_at hl 0 rfl) ?_
  refine mg_first S hK hB wf_X11_29 dX11_worth_1 ?_
  refine lv_iload_n S.1 S.2.1 dX11_worth_4 rfl (lv_at hl 1 rfl) ?_
  obtain ⟨b_1, h⟩ := gd h
  refine ml_first (v := (σ.2.1 10 p0.toNatClampNeg)) S hK hB b_1 rfl dX11_worth_5 ?_
  refine lv_istore_n (lv' := [(3, .int (σ.2.1 10 p0.toNatClampNeg)), (0, .ref (ad 0)), (1, .int p0), (2, .int p1)]) S.1 S.2.1 dX11_worth_6 rfl hl (by decide) rfl (fun ls hl => ?_)
  refine lv_aload_n S.1 S.2.1 dX11_worth_7 rfl (lv_at hl 1 rfl) ?_
  refine mg_kind S hK hB wf_X11_26 dX11_worth_8 ?_
  refine lv_iload_n S.1 S.2.1 dX11_worth_11 rfl (lv_at hl 2 rfl) ?_
  obtain ⟨b_2, h⟩ := gd h
  refine ml_kind (v := (σ.2.1 9 p0.toNatClampNeg)) S hK hB b_2 rfl dX11_worth_12 ?_
  by_cases c_3 : (σ.2.1 9 p0.toNatClampNeg) = 20
  · replace h := (if_pos c_3).symm.trans h
    refine lv_tableIn (off := 71) (tgt := 84) S.1 S.2.1 dX11_worth_13 (by rw [c_3]; decide) (by rw [c_3]; decide) (by rw [c_3]; rfl) (by decide) ?_
    refine lv_iload_n S.1 S.2.1 dX11_worth_84 rfl (lv_at hl 0 rfl) ?_
    refine lv_i2l (v := ((σ.2.1 10 p0.toNatClampNeg).toInt64)) S.1 S.2.1 dX11_worth_85 rfl ?_
    cases h
    exact gRetL S.1 S.2.1 hr hlk hB dX11_worth_86
  · replace h := (if_neg c_3).symm.trans h
    by_cases c_4 : (σ.2.1 9 p0.toNatClampNeg) = 21
    · replace h := (if_pos c_4).symm.trans h
      refine lv_tableIn (off := 74) (tgt := 87) S.1 S.2.1 dX11_worth_13 (by rw [c_4]; decide) (by rw [c_4]; decide) (by rw [c_4]; rfl) (by decide) ?_
      refine lv_aload_n S.1 S.2.1 dX11_worth_87 rfl (lv_at hl 1 rfl) ?_
      refine mg_signals S hK hB wf_X11_79 dX11_worth_88 ?_
      refine lv_bipush (v := (8 : Int32)) S.1 S.2.1 dX11_worth_91 (by decide) ?_
      refine lv_iload_n S.1 S.2.1 dX11_worth_93 rfl (lv_at hl 3 rfl) ?_
      refine lv_imul S.1 S.2.1 dX11_worth_94 ?_
      refine lv_iload_n S.1 S.2.1 dX11_worth_95 rfl (lv_at hl 0 rfl) ?_
      refine lv_iadd S.1 S.2.1 dX11_worth_96 ?_
      obtain ⟨b_5, h⟩ := gd h
      refine ml_signals (v := (σ.2.2 31 (((8 : Int32) * p1) + (σ.2.1 10 p0.toNatClampNeg)).toNatClampNeg)) S hK hB b_5 rfl dX11_worth_97 ?_
      cases h
      exact gRetL S.1 S.2.1 hr hlk hB dX11_worth_98
    · replace h := (if_neg c_4).symm.trans h
      by_cases c_6 : (σ.2.1 9 p0.toNatClampNeg) = 22
      · replace h := (if_pos c_6).symm.trans h
        refine lv_tableIn (off := 86) (tgt := 99) S.1 S.2.1 dX11_worth_13 (by rw [c_6]; decide) (by rw [c_6]; decide) (by rw [c_6]; rfl) (by decide) ?_
        refine lv_aload_n S.1 S.2.1 dX11_worth_99 rfl (lv_at hl 1 rfl) ?_
        refine lv_iload_n S.1 S.2.1 dX11_worth_100 rfl (lv_at hl 0 rfl) ?_
        refine lv_iload_n S.1 S.2.1 dX11_worth_101 rfl (lv_at hl 3 rfl) ?_
        obtain ⟨r_7, σ_7, e_7, h⟩ := b2s h
        refine mCallL S hK hc hKS hA (kX11_at hc e_7) (cwX11_393 S.2.2.2.2 (rm := rmX11_at) rfl rfl ⟨Nat.le_of_ble_eq_true rfl, Nat.le_of_ble_eq_true rfl⟩) hB rfl hl.1 rfl (lv_room (Nat.le_of_ble_eq_true rfl)) dX11_worth_102 ⟨Nat.zero_le _, Nat.zero_le _⟩ (fun H locs hB => ?_)
        cases h
        exact gRetL S.1 S.2.1 hr hlk hB dX11_worth_105
      · replace h := (if_neg c_6).symm.trans h
        by_cases c_8 : (σ.2.1 9 p0.toNatClampNeg) = 23
        · replace h := (if_pos c_8).symm.trans h
          refine lv_tableIn (off := 93) (tgt := 106) S.1 S.2.1 dX11_worth_13 (by rw [c_8]; decide) (by rw [c_8]; decide) (by rw [c_8]; rfl) (by decide) ?_
          refine lv_aload_n S.1 S.2.1 dX11_worth_106 rfl (lv_at hl 1 rfl) ?_
          refine mg_times S hK hB wf_X11_76 dX11_worth_107 ?_
          refine lv_iload_n S.1 S.2.1 dX11_worth_110 rfl (lv_at hl 3 rfl) ?_
          obtain ⟨b_9, h⟩ := gd h
          refine ml_times (v := (σ.2.1 30 p1.toNatClampNeg)) S hK hB b_9 rfl dX11_worth_111 ?_
          refine lv_i2l (v := ((σ.2.1 30 p1.toNatClampNeg).toInt64)) S.1 S.2.1 dX11_worth_112 rfl ?_
          cases h
          exact gRetL S.1 S.2.1 hr hlk hB dX11_worth_113
        · replace h := (if_neg c_8).symm.trans h
          by_cases c_10 : (σ.2.1 9 p0.toNatClampNeg) = 24
          · replace h := (if_pos c_10).symm.trans h
            refine lv_tableIn (off := 101) (tgt := 114) S.1 S.2.1 dX11_worth_13 (by rw [c_10]; decide) (by rw [c_10]; decide) (by rw [c_10]; rfl) (by decide) ?_
            refine lv_iload_n S.1 S.2.1 dX11_worth_114 rfl (lv_at hl 3 rfl) ?_
            refine lv_i2l (v := p1.toInt64) S.1 S.2.1 dX11_worth_115 rfl ?_
            cases h
            exact gRetL S.1 S.2.1 hr hlk hB dX11_worth_116
          · replace h := (if_neg c_10).symm.trans h
            by_cases c_11 : (σ.2.1 9 p0.toNatClampNeg) = 25
            · replace h := (if_pos c_11).symm.trans h
              refine lv_tableIn (off := 104) (tgt := 117) S.1 S.2.1 dX11_worth_13 (by rw [c_11]; decide) (by rw [c_11]; decide) (by rw [c_11]; rfl) (by decide) ?_
              refine lv_aload_n S.1 S.2.1 dX11_worth_117 rfl (lv_at hl 1 rfl) ?_
              refine lv_iload_n S.1 S.2.1 dX11_worth_118 rfl (lv_at hl 0 rfl) ?_
              refine lv_iload_n S.1 S.2.1 dX11_worth_119 rfl (lv_at hl 3 rfl) ?_
              obtain ⟨r_12, σ_12, e_12, h⟩ := b2s h
              refine mCallL S hK hc hKS hA (kX11_at hc e_12) (cwX11_393 S.2.2.2.2 (rm := rmX11_at) rfl rfl ⟨Nat.le_of_ble_eq_true rfl, Nat.le_of_ble_eq_true rfl⟩) hB rfl hl.1 rfl (lv_room (Nat.le_of_ble_eq_true rfl)) dX11_worth_120 ⟨Nat.zero_le _, Nat.zero_le _⟩ (fun H locs hB => ?_)
              refine lv_lneg S.1 S.2.1 dX11_worth_123 ?_
              cases h
              exact gRetL S.1 S.2.1 hr hlk hB dX11_worth_124
            · replace h := (if_neg c_11).symm.trans h
              by_cases c_13 : (σ.2.1 9 p0.toNatClampNeg) = 26
              · replace h := (if_pos c_13).symm.trans h
                refine lv_tableIn (off := 112) (tgt := 125) S.1 S.2.1 dX11_worth_13 (by rw [c_13]; decide) (by rw [c_13]; decide) (by rw [c_13]; rfl) (by decide) ?_
                refine lv_iload_n S.1 S.2.1 dX11_worth_125 rfl (lv_at hl 3 rfl) ?_
                refine lv_if_ne (tgt := 133) S.1 S.2.1 dX11_worth_126 (by decide) (fun c_14 => ?_) (fun c_14 => ?_)
                · replace h := (if_neg c_14).symm.trans h
                  refine lv_aload_n S.1 S.2.1 dX11_worth_133 rfl (lv_at hl 1 rfl) ?_
                  refine lv_iload_n S.1 S.2.1 dX11_worth_134 rfl (lv_at hl 0 rfl) ?_
                  refine lv_iload_n S.1 S.2.1 dX11_worth_135 rfl (lv_at hl 3 rfl) ?_
                  refine lv_iconst (v := (1 : Int32)) S.1 S.2.1 dX11_worth_136 (by decide) ?_
                  refine lv_isub S.1 S.2.1 dX11_worth_137 ?_
                  obtain ⟨r_15, σ_15, e_15, h⟩ := b2s h
                  refine mCallL S hK hc hKS hA (kX11_at hc e_15) (cwX11_393 S.2.2.2.2 (rm := rmX11_at) rfl rfl ⟨Nat.le_of_ble_eq_true rfl, Nat.le_of_ble_eq_true rfl⟩) hB rfl hl.1 rfl (lv_room (Nat.le_of_ble_eq_true rfl)) dX11_worth_138 ⟨Nat.zero_le _, Nat.zero_le _⟩ (fun H locs hB => ?_)
                  cases h
                  exact gRetL S.1 S.2.1 hr hlk hB dX11_worth_141
                · replace h := (if_pos c_14).symm.trans h
                  refine lv_lconst (v := 0) S.1 S.2.1 dX11_worth_129 (by decide) ?_
                  refine lv_goto (tgt := 141) S.1 S.2.1 dX11_worth_130 (by decide) ?_
                  cases h
                  exact gRetL S.1 S.2.1 hr hlk hB dX11_worth_141
              · replace h := (if_neg c_13).symm.trans h
                by_cases c_16 : (σ.2.1 9 p0.toNatClampNeg) = 27
                · replace h := (if_pos c_16).symm.trans h
                  refine lv_tableIn (off := 129) (tgt := 142) S.1 S.2.1 dX11_worth_13 (by rw [c_16]; decide) (by rw [c_16]; decide) (by rw [c_16]; rfl) (by decide) ?_
                  refine lv_aload_n S.1 S.2.1 dX11_worth_142 rfl (lv_at hl 1 rfl) ?_
                  refine lv_aload_n S.1 S.2.1 dX11_worth_143 rfl (lv_at hl 1 rfl) ?_
                  refine mg_kind S hK hB wf_X11_26 dX11_worth_144 ?_
                  refine lv_iload_n S.1 S.2.1 dX11_worth_147 rfl (lv_at hl 2 rfl) ?_
                  obtain ⟨b_17, h⟩ := gd h
                  refine ml_kind (v := (σ.2.1 9 p0.toNatClampNeg)) S hK hB b_17 rfl dX11_worth_148 ?_
                  refine lv_iload_n S.1 S.2.1 dX11_worth_149 rfl (lv_at hl 0 rfl) ?_
                  refine lv_iload_n S.1 S.2.1 dX11_worth_150 rfl (lv_at hl 3 rfl) ?_
                  obtain ⟨r_18, σ_18, e_18, h⟩ := b2s h
                  refine mCallL S hK hc hKS hA (kX11_overAll hc e_18) (cwX11_423 S.2.2.2.2 (rm := rmX11_overAll) rfl rfl ⟨Nat.le_of_ble_eq_true rfl, Nat.le_of_ble_eq_true rfl⟩) hB rfl hl.1 rfl (lv_room (Nat.le_of_ble_eq_true rfl)) dX11_worth_151 ⟨Nat.zero_le _, Nat.zero_le _⟩ (fun H locs hB => ?_)
                  cases h
                  exact gRetL S.1 S.2.1 hr hlk hB dX11_worth_154
                · replace h := (if_neg c_16).symm.trans h
                  by_cases c_19 : (σ.2.1 9 p0.toNatClampNeg) = 28
                  · replace h := (if_pos c_19).symm.trans h
                    refine lv_tableIn (off := 129) (tgt := 142) S.1 S.2.1 dX11_worth_13 (by rw [c_19]; decide) (by rw [c_19]; decide) (by rw [c_19]; rfl) (by decide) ?_
                    refine lv_aload_n S.1 S.2.1 dX11_worth_142 rfl (lv_at hl 1 rfl) ?_
                    refine lv_aload_n S.1 S.2.1 dX11_worth_143 rfl (lv_at hl 1 rfl) ?_
                    refine mg_kind S hK hB wf_X11_26 dX11_worth_144 ?_
                    refine lv_iload_n S.1 S.2.1 dX11_worth_147 rfl (lv_at hl 2 rfl) ?_
                    obtain ⟨b_20, h⟩ := gd h
                    refine ml_kind (v := (σ.2.1 9 p0.toNatClampNeg)) S hK hB b_20 rfl dX11_worth_148 ?_
                    refine lv_iload_n S.1 S.2.1 dX11_worth_149 rfl (lv_at hl 0 rfl) ?_
                    refine lv_iload_n S.1 S.2.1 dX11_worth_150 rfl (lv_at hl 3 rfl) ?_
                    obtain ⟨r_21, σ_21, e_21, h⟩ := b2s h
                    refine mCallL S hK hc hKS hA (kX11_overAll hc e_21) (cwX11_423 S.2.2.2.2 (rm := rmX11_overAll) rfl rfl ⟨Nat.le_of_ble_eq_true rfl, Nat.le_of_ble_eq_true rfl⟩) hB rfl hl.1 rfl (lv_room (Nat.le_of_ble_eq_true rfl)) dX11_worth_151 ⟨Nat.zero_le _, Nat.zero_le _⟩ (fun H locs hB => ?_)
                    cases h
                    exact gRetL S.1 S.2.1 hr hlk hB dX11_worth_154
                  · replace h := (if_neg c_19).symm.trans h
                    by_cases c_22 : (σ.2.1 9 p0.toNatClampNeg) = 29
                    · replace h := (if_pos c_22).symm.trans h
                      refine lv_tableIn (off := 129) (tgt := 142) S.1 S.2.1 dX11_worth_13 (by rw [c_22]; decide) (by rw [c_22]; decide) (by rw [c_22]; rfl) (by decide) ?_
                      refine lv_aload_n S.1 S.2.1 dX11_worth_142 rfl (lv_at hl 1 rfl) ?_
                      refine lv_aload_n S.1 S.2.1 dX11_worth_143 rfl (lv_at hl 1 rfl) ?_
                      refine mg_kind S hK hB wf_X11_26 dX11_worth_144 ?_
                      refine lv_iload_n S.1 S.2.1 dX11_worth_147 rfl (lv_at hl 2 rfl) ?_
                      obtain ⟨b_23, h⟩ := gd h
                      refine ml_kind (v := (σ.2.1 9 p0.toNatClampNeg)) S hK hB b_23 rfl dX11_worth_148 ?_
                      refine lv_iload_n S.1 S.2.1 dX11_worth_149 rfl (lv_at hl 0 rfl) ?_
                      refine lv_iload_n S.1 S.2.1 dX11_worth_150 rfl (lv_at hl 3 rfl) ?_
                      obtain ⟨r_24, σ_24, e_24, h⟩ := b2s h
                      refine mCallL S hK hc hKS hA (kX11_overAll hc e_24) (cwX11_423 S.2.2.2.2 (rm := rmX11_overAll) rfl rfl ⟨Nat.le_of_ble_eq_true rfl, Nat.le_of_ble_eq_true rfl⟩) hB rfl hl.1 rfl (lv_room (Nat.le_of_ble_eq_true rfl)) dX11_worth_151 ⟨Nat.zero_le _, Nat.zero_le _⟩ (fun H locs hB => ?_)
                      cases h
                      exact gRetL S.1 S.2.1 hr hlk hB dX11_worth_154
                    · replace h := (if_neg c_22).symm.trans h
                      by_cases c_25 : (σ.2.1 9 p0.toNatClampNeg) = 30
                      · replace h := (if_pos c_25).symm.trans h
                        refine lv_tableIn (off := 142) (tgt := 155) S.1 S.2.1 dX11_worth_13 (by rw [c_25]; decide) (by rw [c_25]; decide) (by rw [c_25]; rfl) (by decide) ?_
                        refine lv_lconst (v := 0) S.1 S.2.1 dX11_worth_155 (by decide) ?_
                        refine lv_lstore (lv' := [(4, .long (0 : Int64)), (3, .int (σ.2.1 10 p0.toNatClampNeg)), (0, .ref (ad 0)), (1, .int p0), (2, .int p1)]) S.1 S.2.1 dX11_worth_156 hl (by decide) rfl (fun ls hl => ?_)
                        refine lv_iconst (v := (0 : Int32)) S.1 S.2.1 dX11_worth_158 (by decide) ?_
                        refine lv_istore (lv' := [(6, .int (0 : Int32)), (4, .long (0 : Int64)), (3, .int (σ.2.1 10 p0.toNatClampNeg)), (0, .ref (ad 0)), (1, .int p0), (2, .int p1)]) S.1 S.2.1 dX11_worth_159 hl (by decide) rfl (fun ls hl => ?_)
                        exact P161  L _ _ _ _ _ _ _ _ h hB (lv_sub hl [3, 5, 2, 1, 0] rfl)
                      · replace h := (if_neg c_25).symm.trans h
                        by_cases c_28 : (σ.2.1 9 p0.toNatClampNeg) = 31
                        · replace h := (if_pos c_28).symm.trans h
                          refine lv_tableIn (off := 175) (tgt := 188) S.1 S.2.1 dX11_worth_13 (by rw [c_28]; decide) (by rw [c_28]; decide) (by rw [c_28]; rfl) (by decide) ?_
                          refine lv_aload_n S.1 S.2.1 dX11_worth_188 rfl (lv_at hl 1 rfl) ?_
                          refine lv_iload_n S.1 S.2.1 dX11_worth_189 rfl (lv_at hl 0 rfl) ?_
                          refine lv_iload_n S.1 S.2.1 dX11_worth_190 rfl (lv_at hl 3 rfl) ?_
                          obtain ⟨r_29, σ_29, e_29, h⟩ := b2s h
                          refine mCallI S hK hc hKS hA (kX11_lastHolding hc e_29) (cwX11_427 S.2.2.2.2 (rm := rmX11_lastHolding) rfl rfl ⟨Nat.le_of_ble_eq_true rfl, Nat.le_of_ble_eq_true rfl⟩) hB rfl hl.1 rfl (lv_room (Nat.le_of_ble_eq_true rfl)) dX11_worth_191 ⟨Nat.zero_le _, Nat.zero_le _⟩ (fun H locs hB => ?_)
                          refine lv_iconst (v := (-1 : Int32)) S.1 S.2.1 dX11_worth_194 (by decide) ?_
                          refine lv_icmp_ne (tgt := 204) S.1 S.2.1 dX11_worth_195 (by decide) (fun c_30 => ?_) (fun c_30 => ?_)
                          · replace h := (if_neg c_30).symm.trans h
                            refine lv_aload_n S.1 S.2.1 dX11_worth_204 rfl (lv_at hl 1 rfl) ?_
                            refine mg_times S hK hB wf_X11_76 dX11_worth_205 ?_
                            refine lv_iload_n S.1 S.2.1 dX11_worth_208 rfl (lv_at hl 3 rfl) ?_
                            obtain ⟨b_31, h⟩ := gd h
                            refine ml_times (v := (σ_29.2.1 30 p1.toNatClampNeg)) S hK hB b_31 rfl dX11_worth_209 ?_
                            refine lv_aload_n S.1 S.2.1 dX11_worth_210 rfl (lv_at hl 1 rfl) ?_
                            refine mg_times S hK hB wf_X11_76 dX11_worth_211 ?_
                            refine lv_aload_n S.1 S.2.1 dX11_worth_214 rfl (lv_at hl 1 rfl) ?_
                            refine lv_iload_n S.1 S.2.1 dX11_worth_215 rfl (lv_at hl 0 rfl) ?_
                            refine lv_iload_n S.1 S.2.1 dX11_worth_216 rfl (lv_at hl 3 rfl) ?_
                            obtain ⟨r_32, σ_32, e_32, h⟩ := b2s h
                            refine mCallI S hK hc hKS hA (kX11_lastHolding hc e_32) (cwX11_427 S.2.2.2.2 (rm := rmX11_lastHolding) rfl rfl ⟨Nat.le_of_ble_eq_true rfl, Nat.le_of_ble_eq_true rfl⟩) hB rfl hl.1 rfl (lv_room (Nat.le_of_ble_eq_true rfl)) dX11_worth_217 ⟨Nat.zero_le _, Nat.zero_le _⟩ (fun H locs hB => ?_)
                            obtain ⟨b_33, h⟩ := gd h
                            refine ml_times (v := (σ_32.2.1 30 r_32.toNatClampNeg)) S hK hB b_33 rfl dX11_worth_220 ?_
                            refine lv_isub S.1 S.2.1 dX11_worth_221 ?_
                            refine lv_i2l (v := (((σ_29.2.1 30 p1.toNatClampNeg) - (σ_32.2.1 30 r_32.toNatClampNeg)).toInt64)) S.1 S.2.1 dX11_worth_222 rfl ?_
                            cases h
                            exact gRetL S.1 S.2.1 hr hlk hB dX11_worth_223
                          · replace h := (if_pos c_30).symm.trans h
                            refine lv_ldc2 (v := (-1)) S.1 S.2.1 S.2.2.2.1 (S.2.2.2.2 _ (List.mem_cons_of_mem _ wk_X11_430)) dX11_worth_198 ?_
                            refine lv_goto (tgt := 223) S.1 S.2.1 dX11_worth_201 (by decide) ?_
                            cases h
                            exact gRetL S.1 S.2.1 hr hlk hB dX11_worth_223
                        · replace h := (if_neg c_28).symm.trans h
                          by_cases c_34 : (σ.2.1 9 p0.toNatClampNeg) = 32
                          · replace h := (if_pos c_34).symm.trans h
                            refine lv_tableIn (off := 211) (tgt := 224) S.1 S.2.1 dX11_worth_13 (by rw [c_34]; decide) (by rw [c_34]; decide) (by rw [c_34]; rfl) (by decide) ?_
                            refine lv_aload_n S.1 S.2.1 dX11_worth_224 rfl (lv_at hl 1 rfl) ?_
                            refine lv_iload_n S.1 S.2.1 dX11_worth_225 rfl (lv_at hl 0 rfl) ?_
                            refine lv_iload_n S.1 S.2.1 dX11_worth_226 rfl (lv_at hl 3 rfl) ?_
                            obtain ⟨r_35, σ_35, e_35, h⟩ := b2s h
                            refine mCallI S hK hc hKS hA (kX11_lastHolding hc e_35) (cwX11_427 S.2.2.2.2 (rm := rmX11_lastHolding) rfl rfl ⟨Nat.le_of_ble_eq_true rfl, Nat.le_of_ble_eq_true rfl⟩) hB rfl hl.1 rfl (lv_room (Nat.le_of_ble_eq_true rfl)) dX11_worth_227 ⟨Nat.zero_le _, Nat.zero_le _⟩ (fun H locs hB => ?_)
                            refine lv_iconst (v := (-1 : Int32)) S.1 S.2.1 dX11_worth_230 (by decide) ?_
                            refine lv_icmp_ne (tgt := 238) S.1 S.2.1 dX11_worth_231 (by decide) (fun c_36 => ?_) (fun c_36 => ?_)
                            · replace h := (if_neg c_36).symm.trans h
                              refine lv_aload_n S.1 S.2.1 dX11_worth_238 rfl (lv_at hl 1 rfl) ?_
                              refine lv_aload_n S.1 S.2.1 dX11_worth_239 rfl (lv_at hl 1 rfl) ?_
                              refine mg_second S hK hB wf_X11_32 dX11_worth_240 ?_
                              refine lv_iload_n S.1 S.2.1 dX11_worth_243 rfl (lv_at hl 2 rfl) ?_
                              obtain ⟨b_37, h⟩ := gd h
                              refine ml_second (v := (σ_35.2.1 11 p0.toNatClampNeg)) S hK hB b_37 rfl dX11_worth_244 ?_
                              refine lv_aload_n S.1 S.2.1 dX11_worth_245 rfl (lv_at hl 1 rfl) ?_
                              refine lv_iload_n S.1 S.2.1 dX11_worth_246 rfl (lv_at hl 0 rfl) ?_
                              refine lv_iload_n S.1 S.2.1 dX11_worth_247 rfl (lv_at hl 3 rfl) ?_
                              obtain ⟨r_38, σ_38, e_38, h⟩ := b2s h
                              refine mCallI S hK hc hKS hA (kX11_lastHolding hc e_38) (cwX11_427 S.2.2.2.2 (rm := rmX11_lastHolding) rfl rfl ⟨Nat.le_of_ble_eq_true rfl, Nat.le_of_ble_eq_true rfl⟩) hB rfl hl.1 rfl (lv_room (Nat.le_of_ble_eq_true rfl)) dX11_worth_248 ⟨Nat.zero_le _, Nat.zero_le _⟩ (fun H locs hB => ?_)
                              obtain ⟨r_39, σ_39, e_39, h⟩ := b2s h
                              refine mCallL S hK hc hKS hA (kX11_at hc e_39) (cwX11_393 S.2.2.2.2 (rm := rmX11_at) rfl rfl ⟨Nat.le_of_ble_eq_true rfl, Nat.le_of_ble_eq_true rfl⟩) hB rfl hl.1 rfl (lv_room (Nat.le_of_ble_eq_true rfl)) dX11_worth_251 ⟨Nat.zero_le _, Nat.zero_le _⟩ (fun H locs hB => ?_)
                              cases h
                              exact gRetL S.1 S.2.1 hr hlk hB dX11_worth_254
                            · replace h := (if_pos c_36).symm.trans h
                              refine lv_lconst (v := 0) S.1 S.2.1 dX11_worth_234 (by decide) ?_
                              refine lv_goto (tgt := 254) S.1 S.2.1 dX11_worth_235 (by decide) ?_
                              cases h
                              exact gRetL S.1 S.2.1 hr hlk hB dX11_worth_254
                          · replace h := (if_neg c_34).symm.trans h
                            by_cases c_40 : (σ.2.1 9 p0.toNatClampNeg) = 33
                            · replace h := (if_pos c_40).symm.trans h
                              refine lv_tableIn (off := 242) (tgt := 255) S.1 S.2.1 dX11_worth_13 (by rw [c_40]; decide) (by rw [c_40]; decide) (by rw [c_40]; rfl) (by decide) ?_
                              refine lv_aload_n S.1 S.2.1 dX11_worth_255 rfl (lv_at hl 1 rfl) ?_
                              refine lv_aload_n S.1 S.2.1 dX11_worth_256 rfl (lv_at hl 1 rfl) ?_
                              refine lv_iload_n S.1 S.2.1 dX11_worth_257 rfl (lv_at hl 0 rfl) ?_
                              refine lv_iload_n S.1 S.2.1 dX11_worth_258 rfl (lv_at hl 3 rfl) ?_
                              obtain ⟨r_41, σ_41, e_41, h⟩ := b2s h
                              refine mCallI S hK hc hKS hA (kX11_holds hc e_41) (cwX11_407 S.2.2.2.2 (rm := rmX11_holds) rfl rfl ⟨Nat.le_of_ble_eq_true rfl, Nat.le_of_ble_eq_true rfl⟩) hB rfl hl.1 rfl (lv_room (Nat.le_of_ble_eq_true rfl)) dX11_worth_259 ⟨Nat.zero_le _, Nat.zero_le _⟩ (fun H locs hB => ?_)
                              refine lv_if_eq (tgt := 274) S.1 S.2.1 dX11_worth_262 (by decide) (fun c_42 => ?_) (fun c_42 => ?_)
                              · replace h := (if_pos c_42).symm.trans h
                                refine lv_aload_n S.1 S.2.1 dX11_worth_274 rfl (lv_at hl 1 rfl) ?_
                                refine mg_third S hK hB wf_X11_35 dX11_worth_275 ?_
                                refine lv_iload_n S.1 S.2.1 dX11_worth_278 rfl (lv_at hl 2 rfl) ?_
                                obtain ⟨b_43, h⟩ := gd h
                                refine ml_third (v := (σ_41.2.1 12 p0.toNatClampNeg)) S hK hB b_43 rfl dX11_worth_279 ?_
                                refine lv_iload_n S.1 S.2.1 dX11_worth_280 rfl (lv_at hl 3 rfl) ?_
                                obtain ⟨r_44, σ_44, e_44, h⟩ := b2s h
                                refine mCallL S hK hc hKS hA (kX11_at hc e_44) (cwX11_393 S.2.2.2.2 (rm := rmX11_at) rfl rfl ⟨Nat.le_of_ble_eq_true rfl, Nat.le_of_ble_eq_true rfl⟩) hB rfl hl.1 rfl (lv_room (Nat.le_of_ble_eq_true rfl)) dX11_worth_281 ⟨Nat.zero_le _, Nat.zero_le _⟩ (fun H locs hB => ?_)
                                cases h
                                exact gRetL S.1 S.2.1 hr hlk hB dX11_worth_284
                              · replace h := (if_neg c_42).symm.trans h
                                refine lv_aload_n S.1 S.2.1 dX11_worth_265 rfl (lv_at hl 1 rfl) ?_
                                refine mg_second S hK hB wf_X11_32 dX11_worth_266 ?_
                                refine lv_iload_n S.1 S.2.1 dX11_worth_269 rfl (lv_at hl 2 rfl) ?_
                                obtain ⟨b_45, h⟩ := gd h
                                refine ml_second (v := (σ_41.2.1 11 p0.toNatClampNeg)) S hK hB b_45 rfl dX11_worth_270 ?_
                                refine lv_goto (tgt := 280) S.1 S.2.1 dX11_worth_271 (by decide) ?_
                                refine lv_iload_n S.1 S.2.1 dX11_worth_280 rfl (lv_at hl 3 rfl) ?_
                                obtain ⟨r_46, σ_46, e_46, h⟩ := b2s h
                                refine mCallL S hK hc hKS hA (kX11_at hc e_46) (cwX11_393 S.2.2.2.2 (rm := rmX11_at) rfl rfl ⟨Nat.le_of_ble_eq_true rfl, Nat.le_of_ble_eq_true rfl⟩) hB rfl hl.1 rfl (lv_room (Nat.le_of_ble_eq_true rfl)) dX11_worth_281 ⟨Nat.zero_le _, Nat.zero_le _⟩ (fun H locs hB => ?_)
                                cases h
                                exact gRetL S.1 S.2.1 hr hlk hB dX11_worth_284
                            · replace h := (if_neg c_40).symm.trans h
                              refine swT (tgt := 285) (cs := [20, 21, 22, 23, 24, 25, 26, 27, 28, 29, 30, 31, 32, 33]) S.1 S.2.1 dX11_worth_13 (List.forall_mem_cons.mpr ⟨lv_neT c_3 (by decide), List.forall_mem_cons.mpr ⟨lv_neT c_4 (by decide), List.forall_mem_cons.mpr ⟨lv_neT c_6 (by decide), List.forall_mem_cons.mpr ⟨lv_neT c_8 (by decide), List.forall_mem_cons.mpr ⟨lv_neT c_10 (by decide), List.forall_mem_cons.mpr ⟨lv_neT c_11 (by decide), List.forall_mem_cons.mpr ⟨lv_neT c_13 (by decide), List.forall_mem_cons.mpr ⟨lv_neT c_16 (by decide), List.forall_mem_cons.mpr ⟨lv_neT c_19 (by decide), List.forall_mem_cons.mpr ⟨lv_neT c_22 (by decide), List.forall_mem_cons.mpr ⟨lv_neT c_25 (by decide), List.forall_mem_cons.mpr ⟨lv_neT c_28 (by decide), List.forall_mem_cons.mpr ⟨lv_neT c_34 (by decide), List.forall_mem_cons.mpr ⟨lv_neT c_40 (by decide), List.forall_mem_nil _⟩⟩⟩⟩⟩⟩⟩⟩⟩⟩⟩⟩⟩⟩) (by decide) (by decide) (by decide) ?_
                              refine lv_aload_n S.1 S.2.1 dX11_worth_285 rfl (lv_at hl 1 rfl) ?_
                              refine mg_third S hK hB wf_X11_35 dX11_worth_286 ?_
                              refine lv_iload_n S.1 S.2.1 dX11_worth_289 rfl (lv_at hl 2 rfl) ?_
                              obtain ⟨b_47, h⟩ := gd h
                              refine ml_third (v := (σ.2.1 12 p0.toNatClampNeg)) S hK hB b_47 rfl dX11_worth_290 ?_
                              refine lv_aload_n S.1 S.2.1 dX11_worth_291 rfl (lv_at hl 1 rfl) ?_
                              refine lv_iload_n S.1 S.2.1 dX11_worth_292 rfl (lv_at hl 0 rfl) ?_
                              refine lv_iload_n S.1 S.2.1 dX11_worth_293 rfl (lv_at hl 3 rfl) ?_
                              obtain ⟨r_48, σ_48, e_48, h⟩ := b2s h
                              refine mCallL S hK hc hKS hA (kX11_at hc e_48) (cwX11_393 S.2.2.2.2 (rm := rmX11_at) rfl rfl ⟨Nat.le_of_ble_eq_true rfl, Nat.le_of_ble_eq_true rfl⟩) hB rfl hl.1 rfl (lv_room (Nat.le_of_ble_eq_true rfl)) dX11_worth_294 ⟨Nat.zero_le _, Nat.zero_le _⟩ (fun H locs hB => ?_)
                              refine lv_aload_n S.1 S.2.1 dX11_worth_297 rfl (lv_at hl 1 rfl) ?_
                              refine lv_aload_n S.1 S.2.1 dX11_worth_298 rfl (lv_at hl 1 rfl) ?_
                              refine mg_second S hK hB wf_X11_32 dX11_worth_299 ?_
                              refine lv_iload_n S.1 S.2.1 dX11_worth_302 rfl (lv_at hl 2 rfl) ?_
                              obtain ⟨b_49, h⟩ := gd h
                              refine ml_second (v := (σ_48.2.1 11 p0.toNatClampNeg)) S hK hB b_49 rfl dX11_worth_303 ?_
                              refine lv_iload_n S.1 S.2.1 dX11_worth_304 rfl (lv_at hl 3 rfl) ?_
                              obtain ⟨r_50, σ_50, e_50, h⟩ := b2s h
                              refine mCallL S hK hc hKS hA (kX11_at hc e_50) (cwX11_393 S.2.2.2.2 (rm := rmX11_at) rfl rfl ⟨Nat.le_of_ble_eq_true rfl, Nat.le_of_ble_eq_true rfl⟩) hB rfl hl.1 rfl (lv_room (Nat.le_of_ble_eq_true rfl)) dX11_worth_305 ⟨Nat.zero_le _, Nat.zero_le _⟩ (fun H locs hB => ?_)
                              obtain ⟨r_51, e_51, h⟩ := bnd h
                              refine mCallSL S hK hc hKS hA (kX11_both hc e_51) (cwX11_432 S.2.2.2.2 (rm := rmX11_both) rfl rfl ⟨Nat.le_of_ble_eq_true rfl, Nat.le_of_ble_eq_true rfl⟩) hB rfl hl.1 rfl (lv_room (Nat.le_of_ble_eq_true rfl)) dX11_worth_308 ⟨Nat.zero_le _, Nat.zero_le _⟩ (fun H locs hB => ?_)
                              cases h
                              exact gRetL S.1 S.2.1 hr hlk hB dX11_worth_311
def FX11_reckon_3 (L : Nat)  : Nat → Int32 → Int32 → Int32 → MS → Option (Unit × MS)
  | 0, _, _, _, _ => none
  | n+1, x2, x3, x4, σ1 =>
    if x2 ≤ x4 then
      some ((), σ1)
    else
      if (x4 < 0 ∨ 1203 ≤ x4.toNatClampNeg) then none else
      if (20 : Int32) ≤ (σ1.2.1 9 x4.toNatClampNeg) then
        b2 (FX11_worth L x4 x3 σ1) fun r_4 σ_4 =>
        if ((((120 : Int32) * x4) + x3) < 0 ∨ 144360 ≤ (((120 : Int32) * x4) + x3).toNatClampNeg) then none else
        (FX11_reckon_3 L n) x2 x3 (x4 + (1 : Int32)) (sB σ_4 16 (vp_updL (σ_4.2.2 16) (((120 : Int32) * x4) + x3).toNatClampNeg r_4))
      else
        b2 (FX11_isTrue L x4 x3 σ1) fun r_6 σ_6 =>
        (FX11_truth r_6).bind fun r_7 =>
        if ((((120 : Int32) * x4) + x3) < 0 ∨ 144360 ≤ (((120 : Int32) * x4) + x3).toNatClampNeg) then none else
        (FX11_reckon_3 L n) x2 x3 (x4 + (1 : Int32)) (sB σ_6 16 (vp_updL (σ_6.2.2 16) (((120 : Int32) * x4) + x3).toNatClampNeg r_7))
def FX11_reckon (L : Nat) (p0 : Int32) (p1 : Int32) (p2 : Int32) (σ : MS) : Option (Unit × MS) :=
  FX11_reckon_3 L L p1 p2 p0 σ
abbrev rmX11_reckon : Room := { frames := 4, cells := 0, slots := 0, locals := 96 }
set_option maxRecDepth 100000 in
set_option maxHeartbeats 4000000 in
theorem kX11_reckon {l : Launch} {D : va_G} {cI cJ : ClassId} {ad : Nat → Nat} {KS : (Nat → Prop) → State → Prop} {L : Nat} (hc : gC KS) {p0 : Int32} {p1 : Int32} {p2 : Int32} {σ σ' : MS} (h : FX11_reckon L p0 p1 p2 σ = some ((), σ')) : gMet l yX11_reckon qX11_reckon rmX11_reckon 0 0 D vwCl [(cI, .int), (cJ, .long)] KS [.ref (ad 0), .int p0, .int p1, .int p2] (MW cI cJ ad σ) (MW cI cJ ad σ') none := by
  refine gMet.of (cc := cX11_reckon) (maxL := 5) (ret := none) (by decide) rfl (Nat.le_of_ble_eq_true rfl) ?_
  intro p e s m args below meth c S hr hlk hnm hK hKS hA hB ls hl
  have hl : lv_has ls 5 [(0, .ref (ad 0)), (1, .int p0), (2, .int p1), (3, .int p2)] := hl
  replace S : CallFix p m c cX11_reckon 5 s args (_ :: wsL_law) RX11 := S
  rw [FX11_reckon] at h
  have P3 : ∀  (n : Nat), ∀ (x2 : Int32) (x3 : Int32) (x4 : Int32) (σ1 : MS) (H : Heap) (locs : List Loc) (ls : Array Slot), FX11_reckon_3 L n x2 x3 x4 σ1 = some ((), σ') → gB D vwCl (va_A (MW cI cJ ad σ) s.heap.size) s.heap (MW cI cJ ad σ1) [] H locs → lv_has ls 5 [(0, .ref (ad 0)), (2, .int x2), (3, .int x3), (4, .int x4)] → W p l e rmX11_reckon s m args below meth c H locs 0 0 (MQ below (gQ D vwCl (MW cI cJ ad σ) (MW cI cJ ad σ') none s.heap.size) args s 0 0 (va_A (MW cI cJ ad σ) s.heap.size)) (F0 m 3 ls []) := by
    intro n
    induction n with
    | zero => intro x2 x3 x4 σ1 H locs ls h; simp only [FX11_reckon_3] at h; cases h
    | succ n ih =>
      intro x2 x3 x4 σ1 H locs ls h hB hl
      rw [FX11_reckon_3] at h
      refine lv_iload S.1 S.2.1 dX11_reckon_3 (lv_at hl 3 rfl) ?_
      refine lv_iload_n S.1 S.2.1 dX11_reckon_5 rfl (lv_at hl 1 rfl) ?_
      refine lv_icmp_ge (tgt := 59) S.1 S.2.1 dX11_reckon_6 (by decide) (fun c_1 => ?_) (fun c_1 => ?_)
      · replace h := (if_pos c_1).symm.trans h
        cases h
        exact gRetV S.1 S.2.1 hr hlk hB dX11_reckon_59
      · replace h := (if_neg c_1).symm.trans h
        refine lv_aload_n S.1 S.2.1 dX11_reckon_9 rfl (lv_at hl 0 rfl) ?_
        refine mg_table S hK hB wf_X11_48 dX11_reckon_10 ?_
        refine lv_bipush (v := (120 : Int32)) S.1 S.2.1 dX11_reckon_13 (by decide) ?_
        refine lv_iload S.1 S.2.1 dX11_reckon_15 (lv_at hl 3 rfl) ?_
        refine lv_imul S.1 S.2.1 dX11_reckon_17 ?_
        refine lv_iload_n S.1 S.2.1 dX11_reckon_18 rfl (lv_at hl 2 rfl) ?_
        refine lv_iadd S.1 S.2.1 dX11_reckon_19 ?_
        refine lv_aload_n S.1 S.2.1 dX11_reckon_20 rfl (lv_at hl 0 rfl) ?_
        refine mg_kind S hK hB wf_X11_26 dX11_reckon_21 ?_
        refine lv_iload S.1 S.2.1 dX11_reckon_24 (lv_at hl 3 rfl) ?_
        obtain ⟨b_2, h⟩ := gd h
        refine ml_kind (v := (σ1.2.1 9 x4.toNatClampNeg)) S hK hB b_2 rfl dX11_reckon_26 ?_
        refine lv_bipush (v := (20 : Int32)) S.1 S.2.1 dX11_reckon_27 (by decide) ?_
        refine lv_icmp_ge (tgt := 45) S.1 S.2.1 dX11_reckon_29 (by decide) (fun c_3 => ?_) (fun c_3 => ?_)
        · replace h := (if_pos c_3).symm.trans h
          refine lv_aload_n S.1 S.2.1 dX11_reckon_45 rfl (lv_at hl 0 rfl) ?_
          refine lv_iload S.1 S.2.1 dX11_reckon_46 (lv_at hl 3 rfl) ?_
          refine lv_iload_n S.1 S.2.1 dX11_reckon_48 rfl (lv_at hl 2 rfl) ?_
          obtain ⟨r_4, σ_4, e_4, h⟩ := b2s h
          refine mCallL S hK hc hKS hA (kX11_worth hc e_4) (cwX11_404 S.2.2.2.2 (rm := rmX11_worth) rfl rfl ⟨Nat.le_of_ble_eq_true rfl, Nat.le_of_ble_eq_true rfl⟩) hB rfl hl.1 rfl (lv_room (Nat.le_of_ble_eq_true rfl)) dX11_reckon_49 ⟨Nat.zero_le _, Nat.zero_le _⟩ (fun H locs hB => ?_)
          obtain ⟨b_5, h⟩ := gd h
          refine ms_table S hK hB b_5 dX11_reckon_52 (fun H locs hB => ?_)
          refine lv_iinc (v := (x4 + (1 : Int32))) (lv' := [(4, .int (x4 + (1 : Int32))), (0, .ref (ad 0)), (2, .int x2), (3, .int x3)]) S.1 S.2.1 dX11_reckon_53 hl (k := 3) rfl rfl (by decide) rfl (fun ls hl => ?_)
          refine lv_goto (tgt := 3) S.1 S.2.1 dX11_reckon_56 (by decide) ?_
          exact ih _ _ _ _ _ _ _ h hB (lv_sub hl [1, 2, 3, 0] rfl)
        · replace h := (if_neg c_3).symm.trans h
          refine lv_aload_n S.1 S.2.1 dX11_reckon_32 rfl (lv_at hl 0 rfl) ?_
          refine lv_iload S.1 S.2.1 dX11_reckon_33 (lv_at hl 3 rfl) ?_
          refine lv_iload_n S.1 S.2.1 dX11_reckon_35 rfl (lv_at hl 2 rfl) ?_
          obtain ⟨r_6, σ_6, e_6, h⟩ := b2s h
          refine mCallI S hK hc hKS hA (kX11_isTrue hc e_6) (cwX11_396 S.2.2.2.2 (rm := rmX11_isTrue) rfl rfl ⟨Nat.le_of_ble_eq_true rfl, Nat.le_of_ble_eq_true rfl⟩) hB rfl hl.1 rfl (lv_room (Nat.le_of_ble_eq_true rfl)) dX11_reckon_36 ⟨Nat.zero_le _, Nat.zero_le _⟩ (fun H locs hB => ?_)
          obtain ⟨r_7, e_7, h⟩ := bnd h
          refine mCallSL S hK hc hKS hA (kX11_truth hc e_7) (cwX11_400 S.2.2.2.2 (rm := rmX11_truth) rfl rfl ⟨Nat.le_of_ble_eq_true rfl, Nat.le_of_ble_eq_true rfl⟩) hB rfl hl.1 rfl (lv_room (Nat.le_of_ble_eq_true rfl)) dX11_reckon_39 ⟨Nat.zero_le _, Nat.zero_le _⟩ (fun H locs hB => ?_)
          refine lv_goto (tgt := 52) S.1 S.2.1 dX11_reckon_42 (by decide) ?_
          obtain ⟨b_8, h⟩ := gd h
          refine ms_table S hK hB b_8 dX11_reckon_52 (fun H locs hB => ?_)
          refine lv_iinc (v := (x4 + (1 : Int32))) (lv' := [(4, .int (x4 + (1 : Int32))), (0, .ref (ad 0)), (2, .int x2), (3, .int x3)]) S.1 S.2.1 dX11_reckon_53 hl (k := 3) rfl rfl (by decide) rfl (fun ls hl => ?_)
          refine lv_goto (tgt := 3) S.1 S.2.1 dX11_reckon_56 (by decide) ?_
          exact ih _ _ _ _ _ _ _ h hB (lv_sub hl [1, 2, 3, 0] rfl)
  refine lv_iload_n S.1 S.2.1 dX11_reckon_0 rfl (lv_at hl 1 rfl) ?_
  refine lv_istore (lv' := [(4, .int p0), (0, .ref (ad 0)), (1, .int p0), (2, .int p1), (3, .int p2)]) S.1 S.2.1 dX11_reckon_1 hl (by decide) rfl (fun ls hl => ?_)
  exact P3  L _ _ _ _ _ _ _ h hB (lv_sub hl [1, 3, 4, 0] rfl)
def FX11_forget_12 (L : Nat)  : Nat → Int32 → MS → Option (Unit × MS)
  | 0, _, _ => none
  | n+1, x1, σ1 =>
    if (4 : Int32) ≤ x1 then
      some ((), (sI (sI (sI (sI σ1 8 (0 : Int32)) 27 (0 : Int32)) 28 (-1 : Int32)) 29 (0 : Int32)))
    else
      if (x1 < 0 ∨ 4 ≤ x1.toNatClampNeg) then none else
      (FX11_forget_12 L n) (x1 + (1 : Int32)) (sA σ1 23 (upd (σ1.2.1 23) x1.toNatClampNeg (0 : Int32)))
def FX11_forget (L : Nat)  (σ : MS) : Option (Unit × MS) :=
  FX11_forget_12 L L (0 : Int32) (sI (sI σ 18 (0 : Int32)) 19 (0 : Int32))
abbrev rmX11_forget : Room := { frames := 0, cells := 0, slots := 0, locals := 0 }
set_option maxRecDepth 100000 in
set_option maxHeartbeats 4000000 in
theorem kX11_forget {l : Launch} {D : va_G} {cI cJ : ClassId} {ad : Nat → Nat} {KS : (Nat → Prop) → State → Prop} {L : Nat} (hc : gC KS)  {σ σ' : MS} (h : FX11_forget L  σ = some ((), σ')) : gMet l yX11_forget qX11_forget rmX11_forget 0 0 D vwCl [(cI, .int), (cJ, .long)] KS [.ref (ad 0)] (MW cI cJ ad σ) (MW cI cJ ad σ') none := by
  refine gMet.of (cc := cX11_forget) (maxL := 2) (ret := none) (by decide) rfl (Nat.le_of_ble_eq_true rfl) ?_
  intro p e s m args below meth c S hr hlk hnm hK hKS hA hB ls hl
  have hl : lv_has ls 2 [(0, .ref (ad 0))] := hl
  replace S : CallFix p m c cX11_forget 2 s args (_ :: wsL_law) RX11 := S
  rw [FX11_forget] at h
  have P12 : ∀  (n : Nat), ∀ (x1 : Int32) (σ1 : MS) (H : Heap) (locs : List Loc) (ls : Array Slot), FX11_forget_12 L n x1 σ1 = some ((), σ') → gB D vwCl (va_A (MW cI cJ ad σ) s.heap.size) s.heap (MW cI cJ ad σ1) [] H locs → lv_has ls 2 [(0, .ref (ad 0)), (1, .int x1)] → W p l e rmX11_forget s m args below meth c H locs 0 0 (MQ below (gQ D vwCl (MW cI cJ ad σ) (MW cI cJ ad σ') none s.heap.size) args s 0 0 (va_A (MW cI cJ ad σ) s.heap.size)) (F0 m 12 ls []) := by
    intro n
    induction n with
    | zero => intro x1 σ1 H locs ls h; simp only [FX11_forget_12] at h; cases h
    | succ n ih =>
      intro x1 σ1 H locs ls h hB hl
      rw [FX11_forget_12] at h
      refine lv_iload_n S.1 S.2.1 dX11_forget_12 rfl (lv_at hl 1 rfl) ?_
      refine lv_iconst (v := (4 : Int32)) S.1 S.2.1 dX11_forget_13 (by decide) ?_
      refine lv_icmp_ge (tgt := 30) S.1 S.2.1 dX11_forget_14 (by decide) (fun c_1 => ?_) (fun c_1 => ?_)
      · replace h := (if_pos c_1).symm.trans h
        refine lv_aload_n S.1 S.2.1 dX11_forget_30 rfl (lv_at hl 0 rfl) ?_
        refine lv_iconst (v := (0 : Int32)) S.1 S.2.1 dX11_forget_31 (by decide) ?_
        refine mp_nodes S hK hB wf_X11_312 dX11_forget_32 (fun H locs hB => ?_)
        refine lv_aload_n S.1 S.2.1 dX11_forget_35 rfl (lv_at hl 0 rfl) ?_
        refine lv_iconst (v := (0 : Int32)) S.1 S.2.1 dX11_forget_36 (by decide) ?_
        refine mp_programNodes S hK hB wf_X11_366 dX11_forget_37 (fun H locs hB => ?_)
        refine lv_aload_n S.1 S.2.1 dX11_forget_40 rfl (lv_at hl 0 rfl) ?_
        refine lv_iconst (v := (-1 : Int32)) S.1 S.2.1 dX11_forget_41 (by decide) ?_
        refine mp_asked S hK hB wf_X11_73 dX11_forget_42 (fun H locs hB => ?_)
        refine lv_aload_n S.1 S.2.1 dX11_forget_45 rfl (lv_at hl 0 rfl) ?_
        refine lv_iconst (v := (0 : Int32)) S.1 S.2.1 dX11_forget_46 (by decide) ?_
        refine mp_steps S hK hB wf_X11_369 dX11_forget_47 (fun H locs hB => ?_)
        cases h
        exact gRetV S.1 S.2.1 hr hlk hB dX11_forget_50
      · replace h := (if_neg c_1).symm.trans h
        refine lv_aload_n S.1 S.2.1 dX11_forget_17 rfl (lv_at hl 0 rfl) ?_
        refine mg_many S hK hB wf_X11_61 dX11_forget_18 ?_
        refine lv_iload_n S.1 S.2.1 dX11_forget_21 rfl (lv_at hl 1 rfl) ?_
        refine lv_iconst (v := (0 : Int32)) S.1 S.2.1 dX11_forget_22 (by decide) ?_
        obtain ⟨b_2, h⟩ := gd h
        refine ms_many S hK hB b_2 dX11_forget_23 (fun H locs hB => ?_)
        refine lv_iinc (v := (x1 + (1 : Int32))) (lv' := [(1, .int (x1 + (1 : Int32))), (0, .ref (ad 0))]) S.1 S.2.1 dX11_forget_24 hl (k := 1) rfl rfl (by decide) rfl (fun ls hl => ?_)
        refine lv_goto (tgt := 12) S.1 S.2.1 dX11_forget_27 (by decide) ?_
        exact ih _ _ _ _ _ h hB (lv_sub hl [1, 0] rfl)
  refine lv_aload_n S.1 S.2.1 dX11_forget_0 rfl (lv_at hl 0 rfl) ?_
  refine lv_iconst (v := (0 : Int32)) S.1 S.2.1 dX11_forget_1 (by decide) ?_
  refine mp_isThere S hK hB wf_X11_362 rfl rfl dX11_forget_2 (fun H locs hB => ?_)
  refine lv_aload_n S.1 S.2.1 dX11_forget_5 rfl (lv_at hl 0 rfl) ?_
  refine lv_iconst (v := (0 : Int32)) S.1 S.2.1 dX11_forget_6 (by decide) ?_
  refine mp_named S hK hB wf_X11_284 dX11_forget_7 (fun H locs hB => ?_)
  refine lv_iconst (v := (0 : Int32)) S.1 S.2.1 dX11_forget_10 (by decide) ?_
  refine lv_istore_n (lv' := [(1, .int (0 : Int32)), (0, .ref (ad 0))]) S.1 S.2.1 dX11_forget_11 rfl hl (by decide) rfl (fun ls hl => ?_)
  exact P12  L _ _ _ _ _ h hB (lv_sub hl [1, 0] rfl)
def FX11_begin_7 (L : Nat)  : Nat → Int32 → MS → Option (Unit × MS)
  | 0, _, _ => none
  | n+1, x1, σ1 =>
    if ((0 : Int32) < 0 ∨ 4 ≤ (0 : Int32).toNatClampNeg) then none else
    if (σ1.2.1 23 (0 : Int32).toNatClampNeg) ≤ x1 then
      some ((), σ1)
    else
      if (x1 < 0 ∨ 8 ≤ x1.toNatClampNeg) then none else
      if (x1 < 0 ∨ 8 ≤ x1.toNatClampNeg) then none else
      (FX11_begin_7 L n) (x1 + (1 : Int32)) (sB σ1 32 (vp_updL (σ1.2.2 32) x1.toNatClampNeg (σ1.2.2 24 x1.toNatClampNeg)))
def FX11_begin (L : Nat)  (σ : MS) : Option (Unit × MS) :=
  FX11_begin_7 L L (0 : Int32) (sI σ 29 (0 : Int32))
abbrev rmX11_begin : Room := { frames := 0, cells := 0, slots := 0, locals := 0 }
set_option maxRecDepth 100000 in
set_option maxHeartbeats 4000000 in
theorem kX11_begin {l : Launch} {D : va_G} {cI cJ : ClassId} {ad : Nat → Nat} {KS : (Nat → Prop) → State → Prop} {L : Nat} (hc : gC KS)  {σ σ' : MS} (h : FX11_begin L  σ = some ((), σ')) : gMet l yX11_begin qX11_begin rmX11_begin 0 0 D vwCl [(cI, .int), (cJ, .long)] KS [.ref (ad 0)] (MW cI cJ ad σ) (MW cI cJ ad σ') none := by
  refine gMet.of (cc := cX11_begin) (maxL := 2) (ret := none) (by decide) rfl (Nat.le_of_ble_eq_true rfl) ?_
  intro p e s m args below meth c S hr hlk hnm hK hKS hA hB ls hl
  have hl : lv_has ls 2 [(0, .ref (ad 0))] := hl
  replace S : CallFix p m c cX11_begin 2 s args (_ :: wsL_law) RX11 := S
  rw [FX11_begin] at h
  have P7 : ∀  (n : Nat), ∀ (x1 : Int32) (σ1 : MS) (H : Heap) (locs : List Loc) (ls : Array Slot), FX11_begin_7 L n x1 σ1 = some ((), σ') → gB D vwCl (va_A (MW cI cJ ad σ) s.heap.size) s.heap (MW cI cJ ad σ1) [] H locs → lv_has ls 2 [(0, .ref (ad 0)), (1, .int x1)] → W p l e rmX11_begin s m args below meth c H locs 0 0 (MQ below (gQ D vwCl (MW cI cJ ad σ) (MW cI cJ ad σ') none s.heap.size) args s 0 0 (va_A (MW cI cJ ad σ) s.heap.size)) (F0 m 7 ls []) := by
    intro n
    induction n with
    | zero => intro x1 σ1 H locs ls h; simp only [FX11_begin_7] at h; cases h
    | succ n ih =>
      intro x1 σ1 H locs ls h hB hl
      rw [FX11_begin_7] at h
      refine lv_iload_n S.1 S.2.1 dX11_begin_7 rfl (lv_at hl 1 rfl) ?_
      refine lv_aload_n S.1 S.2.1 dX11_begin_8 rfl (lv_at hl 0 rfl) ?_
      refine mg_many S hK hB wf_X11_61 dX11_begin_9 ?_
      refine lv_iconst (v := (0 : Int32)) S.1 S.2.1 dX11_begin_12 (by decide) ?_
      obtain ⟨b_1, h⟩ := gd h
      refine ml_many (v := (σ1.2.1 23 (0 : Int32).toNatClampNeg)) S hK hB b_1 rfl dX11_begin_13 ?_
      refine lv_icmp_ge (tgt := 35) S.1 S.2.1 dX11_begin_14 (by decide) (fun c_2 => ?_) (fun c_2 => ?_)
      · replace h := (if_pos c_2).symm.trans h
        cases h
        exact gRetV S.1 S.2.1 hr hlk hB dX11_begin_35
      · replace h := (if_neg c_2).symm.trans h
        refine lv_aload_n S.1 S.2.1 dX11_begin_17 rfl (lv_at hl 0 rfl) ?_
        refine mg_now S hK hB wf_X11_82 dX11_begin_18 ?_
        refine lv_iload_n S.1 S.2.1 dX11_begin_21 rfl (lv_at hl 1 rfl) ?_
        refine lv_aload_n S.1 S.2.1 dX11_begin_22 rfl (lv_at hl 0 rfl) ?_
        refine mg_begins S hK hB wf_X11_64 dX11_begin_23 ?_
        refine lv_iload_n S.1 S.2.1 dX11_begin_26 rfl (lv_at hl 1 rfl) ?_
        obtain ⟨b_3, h⟩ := gd h
        refine ml_begins (v := (σ1.2.2 24 x1.toNatClampNeg)) S hK hB b_3 rfl dX11_begin_27 ?_
        obtain ⟨b_4, h⟩ := gd h
        refine ms_now S hK hB b_4 dX11_begin_28 (fun H locs hB => ?_)
        refine lv_iinc (v := (x1 + (1 : Int32))) (lv' := [(1, .int (x1 + (1 : Int32))), (0, .ref (ad 0))]) S.1 S.2.1 dX11_begin_29 hl (k := 1) rfl rfl (by decide) rfl (fun ls hl => ?_)
        refine lv_goto (tgt := 7) S.1 S.2.1 dX11_begin_32 (by decide) ?_
        exact ih _ _ _ _ _ h hB (lv_sub hl [1, 0] rfl)
  refine lv_aload_n S.1 S.2.1 dX11_begin_0 rfl (lv_at hl 0 rfl) ?_
  refine lv_iconst (v := (0 : Int32)) S.1 S.2.1 dX11_begin_1 (by decide) ?_
  refine mp_steps S hK hB wf_X11_369 dX11_begin_2 (fun H locs hB => ?_)
  refine lv_iconst (v := (0 : Int32)) S.1 S.2.1 dX11_begin_5 (by decide) ?_
  refine lv_istore_n (lv' := [(1, .int (0 : Int32)), (0, .ref (ad 0))]) S.1 S.2.1 dX11_begin_6 rfl hl (by decide) rfl (fun ls hl => ?_)
  exact P7  L _ _ _ _ _ h hB (lv_sub hl [1, 0] rfl)
def FX11_set_22  (x1 : Int32) (x2 : Int64) (y1 : Int32) (σ1 : MS) : Option (Int64 × MS) :=
    if y1 = 0 then
      if (x1 < 0 ∨ 8 ≤ x1.toNatClampNeg) then none else
      if (x1 < 0 ∨ 8 ≤ x1.toNatClampNeg) then none else
      some ((σ1.2.2 32 x1.toNatClampNeg), (sB (sI σ1 0 y1) 32 (vp_updL (σ1.2.2 32) x1.toNatClampNeg x2)))
    else
      some ((0 : Int64), (sI σ1 0 y1))
def FX11_set (p0 : Int32) (p1 : Int64) (σ : MS) : Option (Int64 × MS) :=
  if ((0 : Int32) < 0 ∨ 4 ≤ (0 : Int32).toNatClampNeg) then none else
  (FX11_isIn p0 (0 : Int32) ((σ.2.1 23 (0 : Int32).toNatClampNeg) - (1 : Int32))).bind fun r_2 =>
  if r_2 = 0 then
    FX11_set_22 p0 p1 (1 : Int32) σ
  else
    FX11_set_22 p0 p1 (0 : Int32) σ
abbrev rmX11_set : Room := { frames := 1, cells := 0, slots := 0, locals := 22 }
set_option maxRecDepth 100000 in
set_option maxHeartbeats 4000000 in
theorem kX11_set {l : Launch} {D : va_G} {cI cJ : ClassId} {ad : Nat → Nat} {KS : (Nat → Prop) → State → Prop} (hc : gC KS) {p0 : Int32} {p1 : Int64} {σ σ' : MS} {r : Int64} (h : FX11_set p0 p1 σ = some (r, σ')) : gMet l yX11_set qX11_set rmX11_set 0 0 D vwCl [(cI, .int), (cJ, .long)] KS [.ref (ad 0), .int p0, .long p1] (MW cI cJ ad σ) (MW cI cJ ad σ') (some (.long r)) := by
  refine gMet.of (cc := cX11_set) (maxL := 6) (ret := (some .long)) (by decide) rfl (Nat.le_of_ble_eq_true rfl) ?_
  intro p e s m args below meth c S hr hlk hnm hK hKS hA hB ls hl
  have hl : lv_has ls 6 [(0, .ref (ad 0)), (1, .int p0), (2, .long p1)] := hl
  replace S : CallFix p m c cX11_set 6 s args (_ :: wsL_law) RX11 := S
  rw [FX11_set] at h
  have P22 : ∀ (x1 : Int32) (x2 : Int64) (y1 : Int32) (σ1 : MS) (H : Heap) (locs : List Loc) (ls : Array Slot), FX11_set_22 x1 x2 y1 σ1 = some (r, σ') → gB D vwCl (va_A (MW cI cJ ad σ) s.heap.size) s.heap (MW cI cJ ad σ1) [] H locs → lv_has ls 6 [(0, .ref (ad 0)), (1, .int x1), (2, .long x2)] → W p l e rmX11_set s m args below meth c H locs 0 0 (MQ below (gQ D vwCl (MW cI cJ ad σ) (MW cI cJ ad σ') (some (.long r)) s.heap.size) args s 0 0 (va_A (MW cI cJ ad σ) s.heap.size)) (F0 m 22 ls [.int y1, .ref (ad 0)]) := by
    intro  x1 x2 y1 σ1 H locs ls h hB hl
    rw [FX11_set_22] at h
    refine mp_thrown S hK hB wf_X11_91 dX11_set_22 (fun H locs hB => ?_)
    refine lv_aload_n S.1 S.2.1 dX11_set_25 rfl (lv_at hl 0 rfl) ?_
    refine mg_thrown (v := y1) S hK hB wf_X11_91 rfl dX11_set_26 ?_
    refine lv_if_eq (tgt := 34) S.1 S.2.1 dX11_set_29 (by decide) (fun c_4 => ?_) (fun c_4 => ?_)
    · replace h := (if_pos c_4).symm.trans h
      refine lv_aload_n S.1 S.2.1 dX11_set_34 rfl (lv_at hl 0 rfl) ?_
      refine mg_now S hK hB wf_X11_82 dX11_set_35 ?_
      refine lv_iload_n S.1 S.2.1 dX11_set_38 rfl (lv_at hl 1 rfl) ?_
      obtain ⟨b_5, h⟩ := gd h
      refine ml_now (v := (σ1.2.2 32 x1.toNatClampNeg)) S hK hB b_5 rfl dX11_set_39 ?_
      refine lv_lstore (lv' := [(4, .long (σ1.2.2 32 x1.toNatClampNeg)), (0, .ref (ad 0)), (1, .int x1), (2, .long x2)]) S.1 S.2.1 dX11_set_40 hl (by decide) rfl (fun ls hl => ?_)
      refine lv_aload_n S.1 S.2.1 dX11_set_42 rfl (lv_at hl 1 rfl) ?_
      refine mg_now S hK hB wf_X11_82 dX11_set_43 ?_
      refine lv_iload_n S.1 S.2.1 dX11_set_46 rfl (lv_at hl 2 rfl) ?_
      refine lv_lload_n S.1 S.2.1 dX11_set_47 rfl (lv_at hl 3 rfl) ?_
      obtain ⟨b_6, h⟩ := gd h
      refine ms_now S hK hB b_6 dX11_set_48 (fun H locs hB => ?_)
      refine lv_lload S.1 S.2.1 dX11_set_49 (lv_at hl 0 rfl) ?_
      cases h
      exact gRetL S.1 S.2.1 hr hlk hB dX11_set_51
    · replace h := (if_neg c_4).symm.trans h
      refine lv_lconst (v := 0) S.1 S.2.1 dX11_set_32 (by decide) ?_
      cases h
      exact gRetL S.1 S.2.1 hr hlk hB dX11_set_33
  refine lv_aload_n S.1 S.2.1 dX11_set_0 rfl (lv_at hl 0 rfl) ?_
  refine lv_iload_n S.1 S.2.1 dX11_set_1 rfl (lv_at hl 1 rfl) ?_
  refine lv_iconst (v := (0 : Int32)) S.1 S.2.1 dX11_set_2 (by decide) ?_
  refine lv_aload_n S.1 S.2.1 dX11_set_3 rfl (lv_at hl 0 rfl) ?_
  refine mg_many S hK hB wf_X11_61 dX11_set_4 ?_
  refine lv_iconst (v := (0 : Int32)) S.1 S.2.1 dX11_set_7 (by decide) ?_
  obtain ⟨b_1, h⟩ := gd h
  refine ml_many (v := (σ.2.1 23 (0 : Int32).toNatClampNeg)) S hK hB b_1 rfl dX11_set_8 ?_
  refine lv_iconst (v := (1 : Int32)) S.1 S.2.1 dX11_set_9 (by decide) ?_
  refine lv_isub S.1 S.2.1 dX11_set_10 ?_
  obtain ⟨r_2, e_2, h⟩ := bnd h
  refine mCallSI S hK hc hKS hA (kX11_isIn hc e_2) (cwX11_101 S.2.2.2.2 (rm := rmX11_isIn) rfl rfl ⟨Nat.le_of_ble_eq_true rfl, Nat.le_of_ble_eq_true rfl⟩) hB rfl hl.1 rfl (lv_room (Nat.le_of_ble_eq_true rfl)) dX11_set_11 ⟨Nat.zero_le _, Nat.zero_le _⟩ (fun H locs hB => ?_)
  refine lv_if_eq (tgt := 21) S.1 S.2.1 dX11_set_14 (by decide) (fun c_3 => ?_) (fun c_3 => ?_)
  · replace h := (if_pos c_3).symm.trans h
    refine lv_iconst (v := (1 : Int32)) S.1 S.2.1 dX11_set_21 (by decide) ?_
    exact P22  _ _ _ _ _ _ _ h hB hl
  · replace h := (if_neg c_3).symm.trans h
    refine lv_iconst (v := (0 : Int32)) S.1 S.2.1 dX11_set_17 (by decide) ?_
    refine lv_goto (tgt := 22) S.1 S.2.1 dX11_set_18 (by decide) ?_
    exact P22  _ _ _ _ _ _ _ h hB hl
def FX11_step_65 (L : Nat)  : Nat → Int32 → Int32 → MS → Option (Int32 × MS)
  | 0, _, _, _ => none
  | n+1, x2, x3, σ1 =>
    if ((3 : Int32) < 0 ∨ 4 ≤ (3 : Int32).toNatClampNeg) then none else
    if (σ1.2.1 23 (3 : Int32).toNatClampNeg) ≤ x3 then
      some (x2, (sI σ1 29 ((σ1.1 29) + (1 : Int32))))
    else
      b2 (FX11_watches x3 (σ1.1 29) σ1) fun r_7 σ_7 =>
      if r_7 = 0 then
        (FX11_step_65 L n) (x2 + (1 : Int32)) (x3 + (1 : Int32)) σ_7
      else
        (FX11_step_65 L n) (x2 + (0 : Int32)) (x3 + (1 : Int32)) σ_7
def FX11_step_12 (L : Nat)  : Nat → Int32 → MS → Option (Int32 × MS)
  | 0, _, _ => none
  | n+1, x2, σ1 =>
    if ((0 : Int32) < 0 ∨ 4 ≤ (0 : Int32).toNatClampNeg) then none else
    if (σ1.2.1 23 (0 : Int32).toNatClampNeg) ≤ x2 then
      b2 (FX11_reckon L (0 : Int32) (σ1.1 27) (σ1.1 29) σ1) fun (_ : Unit) σ_4 =>
      FX11_step_65 L L (0 : Int32) (0 : Int32) σ_4
    else
      if (x2 < 0 ∨ 8 ≤ x2.toNatClampNeg) then none else
      if ((((8 : Int32) * (σ1.1 29)) + x2) < 0 ∨ 960 ≤ (((8 : Int32) * (σ1.1 29)) + x2).toNatClampNeg) then none else
      (FX11_step_12 L n) (x2 + (1 : Int32)) (sB σ1 31 (vp_updL (σ1.2.2 31) (((8 : Int32) * (σ1.1 29)) + x2).toNatClampNeg (σ1.2.2 32 x2.toNatClampNeg)))
def FX11_step (L : Nat) (p0 : Int32) (σ : MS) : Option (Int32 × MS) :=
  if ((σ.1 29) < 0 ∨ 120 ≤ (σ.1 29).toNatClampNeg) then none else
  FX11_step_12 L L (0 : Int32) (sA σ 30 (upd (σ.2.1 30) (σ.1 29).toNatClampNeg p0))
abbrev rmX11_step : Room := { frames := 5, cells := 0, slots := 0, locals := 120 }
set_option maxRecDepth 100000 in
set_option maxHeartbeats 4000000 in
theorem kX11_step {l : Launch} {D : va_G} {cI cJ : ClassId} {ad : Nat → Nat} {KS : (Nat → Prop) → State → Prop} {L : Nat} (hc : gC KS) {p0 : Int32} {σ σ' : MS} {r : Int32} (h : FX11_step L p0 σ = some (r, σ')) : gMet l yX11_step qX11_step rmX11_step 0 0 D vwCl [(cI, .int), (cJ, .long)] KS [.ref (ad 0), .int p0] (MW cI cJ ad σ) (MW cI cJ ad σ') (some (.int r)) := by
  refine gMet.of (cc := cX11_step) (maxL := 4) (ret := (some .int)) (by decide) rfl (Nat.le_of_ble_eq_true rfl) ?_
  intro p e s m args below meth c S hr hlk hnm hK hKS hA hB ls hl
  have hl : lv_has ls 4 [(0, .ref (ad 0)), (1, .int p0)] := hl
  replace S : CallFix p m c cX11_step 4 s args (_ :: wsL_law) RX11 := S
  rw [FX11_step] at h
  have P65 : ∀  (n : Nat), ∀ (x2 : Int32) (x3 : Int32) (σ1 : MS) (H : Heap) (locs : List Loc) (ls : Array Slot), FX11_step_65 L n x2 x3 σ1 = some (r, σ') → gB D vwCl (va_A (MW cI cJ ad σ) s.heap.size) s.heap (MW cI cJ ad σ1) [] H locs → lv_has ls 4 [(0, .ref (ad 0)), (2, .int x2), (3, .int x3)] → W p l e rmX11_step s m args below meth c H locs 0 0 (MQ below (gQ D vwCl (MW cI cJ ad σ) (MW cI cJ ad σ') (some (.int r)) s.heap.size) args s 0 0 (va_A (MW cI cJ ad σ) s.heap.size)) (F0 m 65 ls []) := by
    intro n
    induction n with
    | zero => intro x2 x3 σ1 H locs ls h; simp only [FX11_step_65] at h; cases h
    | succ n ih =>
      intro x2 x3 σ1 H locs ls h hB hl
      rw [FX11_step_65] at h
      refine lv_iload_n S.1 S.2.1 dX11_step_65 rfl (lv_at hl 2 rfl) ?_
      refine lv_aload_n S.1 S.2.1 dX11_step_66 rfl (lv_at hl 0 rfl) ?_
      refine mg_many S hK hB wf_X11_61 dX11_step_67 ?_
      refine lv_iconst (v := (3 : Int32)) S.1 S.2.1 dX11_step_70 (by decide) ?_
      obtain ⟨b_5, h⟩ := gd h
      refine ml_many (v := (σ1.2.1 23 (3 : Int32).toNatClampNeg)) S hK hB b_5 rfl dX11_step_71 ?_
      refine lv_icmp_ge (tgt := 101) S.1 S.2.1 dX11_step_72 (by decide) (fun c_6 => ?_) (fun c_6 => ?_)
      · replace h := (if_pos c_6).symm.trans h
        refine lv_aload_n S.1 S.2.1 dX11_step_101 rfl (lv_at hl 0 rfl) ?_
        refine lv_dup S.1 S.2.1 dX11_step_102 rfl ?_
        refine mg_steps S hK hB wf_X11_369 rfl dX11_step_103 ?_
        refine lv_iconst (v := (1 : Int32)) S.1 S.2.1 dX11_step_106 (by decide) ?_
        refine lv_iadd S.1 S.2.1 dX11_step_107 ?_
        refine mp_steps S hK hB wf_X11_369 dX11_step_108 (fun H locs hB => ?_)
        refine lv_iload_n S.1 S.2.1 dX11_step_111 rfl (lv_at hl 1 rfl) ?_
        cases h
        exact gRetI S.1 S.2.1 hr hlk hB dX11_step_112
      · replace h := (if_neg c_6).symm.trans h
        refine lv_iload_n S.1 S.2.1 dX11_step_75 rfl (lv_at hl 1 rfl) ?_
        refine lv_aload_n S.1 S.2.1 dX11_step_76 rfl (lv_at hl 0 rfl) ?_
        refine lv_iload_n S.1 S.2.1 dX11_step_77 rfl (lv_at hl 2 rfl) ?_
        refine lv_aload_n S.1 S.2.1 dX11_step_78 rfl (lv_at hl 0 rfl) ?_
        refine mg_steps S hK hB wf_X11_369 rfl dX11_step_79 ?_
        obtain ⟨r_7, σ_7, e_7, h⟩ := b2s h
        refine mCallI S hK hc hKS hA (kX11_watches hc e_7) (cwX11_446 S.2.2.2.2 (rm := rmX11_watches) rfl rfl ⟨Nat.le_of_ble_eq_true rfl, Nat.le_of_ble_eq_true rfl⟩) hB rfl hl.1 rfl (lv_room (Nat.le_of_ble_eq_true rfl)) dX11_step_82 ⟨Nat.zero_le _, Nat.zero_le _⟩ (fun H locs hB => ?_)
        refine lv_if_eq (tgt := 92) S.1 S.2.1 dX11_step_85 (by decide) (fun c_8 => ?_) (fun c_8 => ?_)
        · replace h := (if_pos c_8).symm.trans h
          refine lv_iconst (v := (1 : Int32)) S.1 S.2.1 dX11_step_92 (by decide) ?_
          refine lv_iadd S.1 S.2.1 dX11_step_93 ?_
          refine lv_istore_n (lv' := [(2, .int (x2 + (1 : Int32))), (0, .ref (ad 0)), (3, .int x3)]) S.1 S.2.1 dX11_step_94 rfl hl (by decide) rfl (fun ls hl => ?_)
          refine lv_iinc (v := (x3 + (1 : Int32))) (lv' := [(3, .int (x3 + (1 : Int32))), (2, .int (x2 + (1 : Int32))), (0, .ref (ad 0))]) S.1 S.2.1 dX11_step_95 hl (k := 2) rfl rfl (by decide) rfl (fun ls hl => ?_)
          refine lv_goto (tgt := 65) S.1 S.2.1 dX11_step_98 (by decide) ?_
          exact ih _ _ _ _ _ _ h hB (lv_sub hl [2, 1, 0] rfl)
        · replace h := (if_neg c_8).symm.trans h
          refine lv_iconst (v := (0 : Int32)) S.1 S.2.1 dX11_step_88 (by decide) ?_
          refine lv_goto (tgt := 93) S.1 S.2.1 dX11_step_89 (by decide) ?_
          refine lv_iadd S.1 S.2.1 dX11_step_93 ?_
          refine lv_istore_n (lv' := [(2, .int (x2 + (0 : Int32))), (0, .ref (ad 0)), (3, .int x3)]) S.1 S.2.1 dX11_step_94 rfl hl (by decide) rfl (fun ls hl => ?_)
          refine lv_iinc (v := (x3 + (1 : Int32))) (lv' := [(3, .int (x3 + (1 : Int32))), (2, .int (x2 + (0 : Int32))), (0, .ref (ad 0))]) S.1 S.2.1 dX11_step_95 hl (k := 2) rfl rfl (by decide) rfl (fun ls hl => ?_)
          refine lv_goto (tgt := 65) S.1 S.2.1 dX11_step_98 (by decide) ?_
          exact ih _ _ _ _ _ _ h hB (lv_sub hl [2, 1, 0] rfl)
  have P12 : ∀  (n : Nat), ∀ (x2 : Int32) (σ1 : MS) (H : Heap) (locs : List Loc) (ls : Array Slot), FX11_step_12 L n x2 σ1 = some (r, σ') → gB D vwCl (va_A (MW cI cJ ad σ) s.heap.size) s.heap (MW cI cJ ad σ1) [] H locs → lv_has ls 4 [(0, .ref (ad 0)), (2, .int x2)] → W p l e rmX11_step s m args below meth c H locs 0 0 (MQ below (gQ D vwCl (MW cI cJ ad σ) (MW cI cJ ad σ') (some (.int r)) s.heap.size) args s 0 0 (va_A (MW cI cJ ad σ) s.heap.size)) (F0 m 12 ls []) := by
    intro n
    induction n with
    | zero => intro x2 σ1 H locs ls h; simp only [FX11_step_12] at h; cases h
    | succ n ih =>
      intro x2 σ1 H locs ls h hB hl
      rw [FX11_step_12] at h
      refine lv_iload_n S.1 S.2.1 dX11_step_12 rfl (lv_at hl 1 rfl) ?_
      refine lv_aload_n S.1 S.2.1 dX11_step_13 rfl (lv_at hl 0 rfl) ?_
      refine mg_many S hK hB wf_X11_61 dX11_step_14 ?_
      refine lv_iconst (v := (0 : Int32)) S.1 S.2.1 dX11_step_17 (by decide) ?_
      obtain ⟨b_2, h⟩ := gd h
      refine ml_many (v := (σ1.2.1 23 (0 : Int32).toNatClampNeg)) S hK hB b_2 rfl dX11_step_18 ?_
      refine lv_icmp_ge (tgt := 48) S.1 S.2.1 dX11_step_19 (by decide) (fun c_3 => ?_) (fun c_3 => ?_)
      · replace h := (if_pos c_3).symm.trans h
        refine lv_aload_n S.1 S.2.1 dX11_step_48 rfl (lv_at hl 0 rfl) ?_
        refine lv_iconst (v := (0 : Int32)) S.1 S.2.1 dX11_step_49 (by decide) ?_
        refine lv_aload_n S.1 S.2.1 dX11_step_50 rfl (lv_at hl 0 rfl) ?_
        refine mg_programNodes S hK hB wf_X11_366 rfl dX11_step_51 ?_
        refine lv_aload_n S.1 S.2.1 dX11_step_54 rfl (lv_at hl 0 rfl) ?_
        refine mg_steps S hK hB wf_X11_369 rfl dX11_step_55 ?_
        obtain ⟨_, σ_4, e_4, h⟩ := b2s h
        refine mCallV S hK hc hKS hA (kX11_reckon hc e_4) (cwX11_442 S.2.2.2.2 (rm := rmX11_reckon) rfl rfl ⟨Nat.le_of_ble_eq_true rfl, Nat.le_of_ble_eq_true rfl⟩) hB rfl hl.1 rfl (lv_room (Nat.le_of_ble_eq_true rfl)) dX11_step_58 ⟨Nat.zero_le _, Nat.zero_le _⟩ (fun H locs hB => ?_)
        refine lv_iconst (v := (0 : Int32)) S.1 S.2.1 dX11_step_61 (by decide) ?_
        refine lv_istore_n (lv' := [(2, .int (0 : Int32)), (0, .ref (ad 0))]) S.1 S.2.1 dX11_step_62 rfl hl (by decide) rfl (fun ls hl => ?_)
        refine lv_iconst (v := (0 : Int32)) S.1 S.2.1 dX11_step_63 (by decide) ?_
        refine lv_istore_n (lv' := [(3, .int (0 : Int32)), (2, .int (0 : Int32)), (0, .ref (ad 0))]) S.1 S.2.1 dX11_step_64 rfl hl (by decide) rfl (fun ls hl => ?_)
        exact P65  L _ _ _ _ _ _ h hB (lv_sub hl [2, 1, 0] rfl)
      · replace h := (if_neg c_3).symm.trans h
        refine lv_aload_n S.1 S.2.1 dX11_step_22 rfl (lv_at hl 0 rfl) ?_
        refine mg_signals S hK hB wf_X11_79 dX11_step_23 ?_
        refine lv_bipush (v := (8 : Int32)) S.1 S.2.1 dX11_step_26 (by decide) ?_
        refine lv_aload_n S.1 S.2.1 dX11_step_28 rfl (lv_at hl 0 rfl) ?_
        refine mg_steps S hK hB wf_X11_369 rfl dX11_step_29 ?_
        refine lv_imul S.1 S.2.1 dX11_step_32 ?_
        refine lv_iload_n S.1 S.2.1 dX11_step_33 rfl (lv_at hl 1 rfl) ?_
        refine lv_iadd S.1 S.2.1 dX11_step_34 ?_
        refine lv_aload_n S.1 S.2.1 dX11_step_35 rfl (lv_at hl 0 rfl) ?_
        refine mg_now S hK hB wf_X11_82 dX11_step_36 ?_
        refine lv_iload_n S.1 S.2.1 dX11_step_39 rfl (lv_at hl 1 rfl) ?_
        obtain ⟨b_9, h⟩ := gd h
        refine ml_now (v := (σ1.2.2 32 x2.toNatClampNeg)) S hK hB b_9 rfl dX11_step_40 ?_
        obtain ⟨b_10, h⟩ := gd h
        refine ms_signals S hK hB b_10 dX11_step_41 (fun H locs hB => ?_)
        refine lv_iinc (v := (x2 + (1 : Int32))) (lv' := [(2, .int (x2 + (1 : Int32))), (0, .ref (ad 0))]) S.1 S.2.1 dX11_step_42 hl (k := 1) rfl rfl (by decide) rfl (fun ls hl => ?_)
        refine lv_goto (tgt := 12) S.1 S.2.1 dX11_step_45 (by decide) ?_
        exact ih _ _ _ _ _ h hB (lv_sub hl [1, 0] rfl)
  refine lv_aload_n S.1 S.2.1 dX11_step_0 rfl (lv_at hl 0 rfl) ?_
  refine mg_times S hK hB wf_X11_76 dX11_step_1 ?_
  refine lv_aload_n S.1 S.2.1 dX11_step_4 rfl (lv_at hl 0 rfl) ?_
  refine mg_steps S hK hB wf_X11_369 rfl dX11_step_5 ?_
  refine lv_iload_n S.1 S.2.1 dX11_step_8 rfl (lv_at hl 1 rfl) ?_
  obtain ⟨b_1, h⟩ := gd h
  refine ms_times S hK hB b_1 dX11_step_9 (fun H locs hB => ?_)
  refine lv_iconst (v := (0 : Int32)) S.1 S.2.1 dX11_step_10 (by decide) ?_
  refine lv_istore_n (lv' := [(2, .int (0 : Int32)), (0, .ref (ad 0)), (1, .int p0)]) S.1 S.2.1 dX11_step_11 rfl hl (by decide) rfl (fun ls hl => ?_)
  exact P12  L _ _ _ _ _ h hB (lv_sub hl [1, 0] rfl)
def FX11_tick_38 (L : Nat)   (σ1 : MS) : Option (Int32 × MS) :=
    b2 (FX11_no (2 : Int32) σ1) fun r_4 σ_4 =>
    some (r_4, σ_4)
def FX11_tick_67 (L : Nat)  (x1 : Int32) (y1 : Int32) (σ1 : MS) : Option (Int32 × MS) :=
    b2 (FX11_step L (y1 + x1) σ1) fun r_8 σ_8 =>
    some (r_8, σ_8)
def FX11_tick (L : Nat) (p0 : Int32) (σ : MS) : Option (Int32 × MS) :=
  (FX11_isIn p0 (0 : Int32) (1000 : Int32)).bind fun r_1 =>
  if r_1 = 0 then
    b2 (FX11_no (1 : Int32) (sI σ 0 (0 : Int32))) fun r_9 σ_9 =>
    some (r_9, σ_9)
  else
    if (σ.1 18) = 0 then
      FX11_tick_38 L (sI σ 0 (0 : Int32))
    else
      if (σ.1 29) = (120 : Int32) then
        FX11_tick_38 L (sI σ 0 (0 : Int32))
      else
        if (σ.1 29) = 0 then
          FX11_tick_67 L p0 (0 : Int32) (sI σ 0 (0 : Int32))
        else
          if (((σ.1 29) - (1 : Int32)) < 0 ∨ 120 ≤ ((σ.1 29) - (1 : Int32)).toNatClampNeg) then none else
          FX11_tick_67 L p0 (σ.2.1 30 ((σ.1 29) - (1 : Int32)).toNatClampNeg) (sI σ 0 (0 : Int32))
abbrev rmX11_tick : Room := { frames := 6, cells := 0, slots := 0, locals := 143 }
set_option maxRecDepth 100000 in
set_option maxHeartbeats 4000000 in
theorem kX11_tick {l : Launch} {D : va_G} {cI cJ : ClassId} {ad : Nat → Nat} {KS : (Nat → Prop) → State → Prop} {L : Nat} (hc : gC KS) {p0 : Int32} {σ σ' : MS} {r : Int32} (h : FX11_tick L p0 σ = some (r, σ')) : gMet l yX11_tick qX11_tick rmX11_tick 0 0 D vwCl [(cI, .int), (cJ, .long)] KS [.ref (ad 0), .int p0] (MW cI cJ ad σ) (MW cI cJ ad σ') (some (.int r)) := by
  refine gMet.of (cc := cX11_tick) (maxL := 2) (ret := (some .int)) (by decide) rfl (Nat.le_of_ble_eq_true rfl) ?_
  intro p e s m args below meth c S hr hlk hnm hK hKS hA hB ls hl
  have hl : lv_has ls 2 [(0, .ref (ad 0)), (1, .int p0)] := hl
  replace S : CallFix p m c cX11_tick 2 s args (_ :: wsL_law) RX11 := S
  rw [FX11_tick] at h
  have P38 : ∀  (σ1 : MS) (H : Heap) (locs : List Loc) (ls : Array Slot), FX11_tick_38 L  σ1 = some (r, σ') → gB D vwCl (va_A (MW cI cJ ad σ) s.heap.size) s.heap (MW cI cJ ad σ1) [] H locs → lv_has ls 2 [(0, .ref (ad 0))] → W p l e rmX11_tick s m args below meth c H locs 0 0 (MQ below (gQ D vwCl (MW cI cJ ad σ) (MW cI cJ ad σ') (some (.int r)) s.heap.size) args s 0 0 (va_A (MW cI cJ ad σ) s.heap.size)) (F0 m 38 ls []) := by
    intro   σ1 H locs ls h hB hl
    rw [FX11_tick_38] at h
    refine lv_aload_n S.1 S.2.1 dX11_tick_38 rfl (lv_at hl 0 rfl) ?_
    refine lv_iconst (v := (2 : Int32)) S.1 S.2.1 dX11_tick_39 (by decide) ?_
    obtain ⟨r_4, σ_4, e_4, h⟩ := b2s h
    refine mCallI S hK hc hKS hA (kX11_no hc e_4) (cwX11_97 S.2.2.2.2 (rm := rmX11_no) rfl rfl ⟨Nat.le_of_ble_eq_true rfl, Nat.le_of_ble_eq_true rfl⟩) hB rfl hl.1 rfl (lv_room (Nat.le_of_ble_eq_true rfl)) dX11_tick_40 ⟨Nat.zero_le _, Nat.zero_le _⟩ (fun H locs hB => ?_)
    cases h
    exact gRetI S.1 S.2.1 hr hlk hB dX11_tick_43
  have P67 : ∀ (x1 : Int32) (y1 : Int32) (σ1 : MS) (H : Heap) (locs : List Loc) (ls : Array Slot), FX11_tick_67 L x1 y1 σ1 = some (r, σ') → gB D vwCl (va_A (MW cI cJ ad σ) s.heap.size) s.heap (MW cI cJ ad σ1) [] H locs → lv_has ls 2 [(1, .int x1)] → W p l e rmX11_tick s m args below meth c H locs 0 0 (MQ below (gQ D vwCl (MW cI cJ ad σ) (MW cI cJ ad σ') (some (.int r)) s.heap.size) args s 0 0 (va_A (MW cI cJ ad σ) s.heap.size)) (F0 m 67 ls [.int y1, .ref (ad 0)]) := by
    intro  x1 y1 σ1 H locs ls h hB hl
    rw [FX11_tick_67] at h
    refine lv_iload_n S.1 S.2.1 dX11_tick_67 rfl (lv_at hl 0 rfl) ?_
    refine lv_iadd S.1 S.2.1 dX11_tick_68 ?_
    obtain ⟨r_8, σ_8, e_8, h⟩ := b2s h
    refine mCallI S hK hc hKS hA (kX11_step hc e_8) (cwX11_449 S.2.2.2.2 (rm := rmX11_step) rfl rfl ⟨Nat.le_of_ble_eq_true rfl, Nat.le_of_ble_eq_true rfl⟩) hB rfl hl.1 rfl (lv_room (Nat.le_of_ble_eq_true rfl)) dX11_tick_69 ⟨Nat.zero_le _, Nat.zero_le _⟩ (fun H locs hB => ?_)
    cases h
    exact gRetI S.1 S.2.1 hr hlk hB dX11_tick_72
  refine lv_aload_n S.1 S.2.1 dX11_tick_0 rfl (lv_at hl 0 rfl) ?_
  refine lv_iconst (v := (0 : Int32)) S.1 S.2.1 dX11_tick_1 (by decide) ?_
  refine mp_thrown S hK hB wf_X11_91 dX11_tick_2 (fun H locs hB => ?_)
  refine lv_iload_n S.1 S.2.1 dX11_tick_5 rfl (lv_at hl 1 rfl) ?_
  refine lv_iconst (v := (0 : Int32)) S.1 S.2.1 dX11_tick_6 (by decide) ?_
  refine lv_sipush (v := (1000 : Int32)) S.1 S.2.1 dX11_tick_7 (by decide) ?_
  obtain ⟨r_1, e_1, h⟩ := bnd h
  refine mCallSI S hK hc hKS hA (kX11_isIn hc e_1) (cwX11_101 S.2.2.2.2 (rm := rmX11_isIn) rfl rfl ⟨Nat.le_of_ble_eq_true rfl, Nat.le_of_ble_eq_true rfl⟩) hB rfl hl.1 rfl (lv_room (Nat.le_of_ble_eq_true rfl)) dX11_tick_10 ⟨Nat.zero_le _, Nat.zero_le _⟩ (fun H locs hB => ?_)
  refine lv_if_ne (tgt := 22) S.1 S.2.1 dX11_tick_13 (by decide) (fun c_2 => ?_) (fun c_2 => ?_)
  · replace h := (if_neg c_2).symm.trans h
    refine lv_aload_n S.1 S.2.1 dX11_tick_22 rfl (lv_at hl 0 rfl) ?_
    refine mg_isThere (v := (σ.1 18)) S hK hB wf_X11_362 rfl dX11_tick_23 ?_
    refine lv_if_eq (tgt := 38) S.1 S.2.1 dX11_tick_26 (by decide) (fun c_3 => ?_) (fun c_3 => ?_)
    · replace h := (if_pos c_3).symm.trans h
      exact P38  _ _ _ _ h hB (lv_sub hl [0] rfl)
    · replace h := (if_neg c_3).symm.trans h
      refine lv_aload_n S.1 S.2.1 dX11_tick_29 rfl (lv_at hl 0 rfl) ?_
      refine mg_steps (v := (σ.1 29)) S hK hB wf_X11_369 rfl dX11_tick_30 ?_
      refine lv_bipush (v := (120 : Int32)) S.1 S.2.1 dX11_tick_33 (by decide) ?_
      refine lv_icmp_ne (tgt := 44) S.1 S.2.1 dX11_tick_35 (by decide) (fun c_5 => ?_) (fun c_5 => ?_)
      · replace h := (if_neg c_5).symm.trans h
        refine lv_aload_n S.1 S.2.1 dX11_tick_44 rfl (lv_at hl 0 rfl) ?_
        refine lv_aload_n S.1 S.2.1 dX11_tick_45 rfl (lv_at hl 0 rfl) ?_
        refine mg_steps (v := (σ.1 29)) S hK hB wf_X11_369 rfl dX11_tick_46 ?_
        refine lv_if_ne (tgt := 56) S.1 S.2.1 dX11_tick_49 (by decide) (fun c_6 => ?_) (fun c_6 => ?_)
        · replace h := (if_neg c_6).symm.trans h
          refine lv_aload_n S.1 S.2.1 dX11_tick_56 rfl (lv_at hl 0 rfl) ?_
          refine mg_times S hK hB wf_X11_76 dX11_tick_57 ?_
          refine lv_aload_n S.1 S.2.1 dX11_tick_60 rfl (lv_at hl 0 rfl) ?_
          refine mg_steps (v := (σ.1 29)) S hK hB wf_X11_369 rfl dX11_tick_61 ?_
          refine lv_iconst (v := (1 : Int32)) S.1 S.2.1 dX11_tick_64 (by decide) ?_
          refine lv_isub S.1 S.2.1 dX11_tick_65 ?_
          obtain ⟨b_7, h⟩ := gd h
          refine ml_times (v := (σ.2.1 30 ((σ.1 29) - (1 : Int32)).toNatClampNeg)) S hK hB b_7 rfl dX11_tick_66 ?_
          exact P67  _ _ _ _ _ _ h hB (lv_sub hl [1] rfl)
        · replace h := (if_pos c_6).symm.trans h
          refine lv_iconst (v := (0 : Int32)) S.1 S.2.1 dX11_tick_52 (by decide) ?_
          refine lv_goto (tgt := 67) S.1 S.2.1 dX11_tick_53 (by decide) ?_
          exact P67  _ _ _ _ _ _ h hB (lv_sub hl [1] rfl)
      · replace h := (if_pos c_5).symm.trans h
        exact P38  _ _ _ _ h hB (lv_sub hl [0] rfl)
  · replace h := (if_pos c_2).symm.trans h
    refine lv_aload_n S.1 S.2.1 dX11_tick_16 rfl (lv_at hl 0 rfl) ?_
    refine lv_iconst (v := (1 : Int32)) S.1 S.2.1 dX11_tick_17 (by decide) ?_
    obtain ⟨r_9, σ_9, e_9, h⟩ := b2s h
    refine mCallI S hK hc hKS hA (kX11_no hc e_9) (cwX11_97 S.2.2.2.2 (rm := rmX11_no) rfl rfl ⟨Nat.le_of_ble_eq_true rfl, Nat.le_of_ble_eq_true rfl⟩) hB rfl hl.1 rfl (lv_room (Nat.le_of_ble_eq_true rfl)) dX11_tick_18 ⟨Nat.zero_le _, Nat.zero_le _⟩ (fun H locs hB => ?_)
    cases h
    exact gRetI S.1 S.2.1 hr hlk hB dX11_tick_21
def FX11_back (p0 : Int32) (σ : MS) : Option (Int32 × MS) :=
  (FX11_isIn p0 (0 : Int32) (σ.1 29)).bind fun r_1 =>
  if r_1 = 0 then
    b2 (FX11_no (1 : Int32) (sI σ 0 (0 : Int32))) fun r_5 σ_5 =>
    some (r_5, σ_5)
  else
    if p0 = 0 then
      some ((0 : Int32), (sI (sI σ 0 (0 : Int32)) 29 p0))
    else
      if ((p0 - (1 : Int32)) < 0 ∨ 120 ≤ (p0 - (1 : Int32)).toNatClampNeg) then none else
      some ((σ.2.1 30 (p0 - (1 : Int32)).toNatClampNeg), (sI (sI σ 0 (0 : Int32)) 29 p0))
abbrev rmX11_back : Room := { frames := 1, cells := 0, slots := 0, locals := 22 }
set_option maxRecDepth 100000 in
set_option maxHeartbeats 4000000 in
theorem kX11_back {l : Launch} {D : va_G} {cI cJ : ClassId} {ad : Nat → Nat} {KS : (Nat → Prop) → State → Prop} (hc : gC KS) {p0 : Int32} {σ σ' : MS} {r : Int32} (h : FX11_back p0 σ = some (r, σ')) : gMet l yX11_back qX11_back rmX11_back 0 0 D vwCl [(cI, .int), (cJ, .long)] KS [.ref (ad 0), .int p0] (MW cI cJ ad σ) (MW cI cJ ad σ') (some (.int r)) := by
  refine gMet.of (cc := cX11_back) (maxL := 2) (ret := (some .int)) (by decide) rfl (Nat.le_of_ble_eq_true rfl) ?_
  intro p e s m args below meth c S hr hlk hnm hK hKS hA hB ls hl
  have hl : lv_has ls 2 [(0, .ref (ad 0)), (1, .int p0)] := hl
  replace S : CallFix p m c cX11_back 2 s args (_ :: wsL_law) RX11 := S
  rw [FX11_back] at h
  refine lv_aload_n S.1 S.2.1 dX11_back_0 rfl (lv_at hl 0 rfl) ?_
  refine lv_iconst (v := (0 : Int32)) S.1 S.2.1 dX11_back_1 (by decide) ?_
  refine mp_thrown S hK hB wf_X11_91 dX11_back_2 (fun H locs hB => ?_)
  refine lv_iload_n S.1 S.2.1 dX11_back_5 rfl (lv_at hl 1 rfl) ?_
  refine lv_iconst (v := (0 : Int32)) S.1 S.2.1 dX11_back_6 (by decide) ?_
  refine lv_aload_n S.1 S.2.1 dX11_back_7 rfl (lv_at hl 0 rfl) ?_
  refine mg_steps (v := (σ.1 29)) S hK hB wf_X11_369 rfl dX11_back_8 ?_
  obtain ⟨r_1, e_1, h⟩ := bnd h
  refine mCallSI S hK hc hKS hA (kX11_isIn hc e_1) (cwX11_101 S.2.2.2.2 (rm := rmX11_isIn) rfl rfl ⟨Nat.le_of_ble_eq_true rfl, Nat.le_of_ble_eq_true rfl⟩) hB rfl hl.1 rfl (lv_room (Nat.le_of_ble_eq_true rfl)) dX11_back_11 ⟨Nat.zero_le _, Nat.zero_le _⟩ (fun H locs hB => ?_)
  refine lv_if_ne (tgt := 23) S.1 S.2.1 dX11_back_14 (by decide) (fun c_2 => ?_) (fun c_2 => ?_)
  · replace h := (if_neg c_2).symm.trans h
    refine lv_aload_n S.1 S.2.1 dX11_back_23 rfl (lv_at hl 0 rfl) ?_
    refine lv_iload_n S.1 S.2.1 dX11_back_24 rfl (lv_at hl 1 rfl) ?_
    refine mp_steps S hK hB wf_X11_369 dX11_back_25 (fun H locs hB => ?_)
    refine lv_iload_n S.1 S.2.1 dX11_back_28 rfl (lv_at hl 1 rfl) ?_
    refine lv_if_ne (tgt := 36) S.1 S.2.1 dX11_back_29 (by decide) (fun c_3 => ?_) (fun c_3 => ?_)
    · replace h := (if_neg c_3).symm.trans h
      refine lv_aload_n S.1 S.2.1 dX11_back_36 rfl (lv_at hl 0 rfl) ?_
      refine mg_times S hK hB wf_X11_76 dX11_back_37 ?_
      refine lv_iload_n S.1 S.2.1 dX11_back_40 rfl (lv_at hl 1 rfl) ?_
      refine lv_iconst (v := (1 : Int32)) S.1 S.2.1 dX11_back_41 (by decide) ?_
      refine lv_isub S.1 S.2.1 dX11_back_42 ?_
      obtain ⟨b_4, h⟩ := gd h
      refine ml_times (v := (σ.2.1 30 (p0 - (1 : Int32)).toNatClampNeg)) S hK hB b_4 rfl dX11_back_43 ?_
      cases h
      exact gRetI S.1 S.2.1 hr hlk hB dX11_back_44
    · replace h := (if_pos c_3).symm.trans h
      refine lv_iconst (v := (0 : Int32)) S.1 S.2.1 dX11_back_32 (by decide) ?_
      refine lv_goto (tgt := 44) S.1 S.2.1 dX11_back_33 (by decide) ?_
      cases h
      exact gRetI S.1 S.2.1 hr hlk hB dX11_back_44
  · replace h := (if_pos c_2).symm.trans h
    refine lv_aload_n S.1 S.2.1 dX11_back_17 rfl (lv_at hl 0 rfl) ?_
    refine lv_iconst (v := (1 : Int32)) S.1 S.2.1 dX11_back_18 (by decide) ?_
    obtain ⟨r_5, σ_5, e_5, h⟩ := b2s h
    refine mCallI S hK hc hKS hA (kX11_no hc e_5) (cwX11_97 S.2.2.2.2 (rm := rmX11_no) rfl rfl ⟨Nat.le_of_ble_eq_true rfl, Nat.le_of_ble_eq_true rfl⟩) hB rfl hl.1 rfl (lv_room (Nat.le_of_ble_eq_true rfl)) dX11_back_19 ⟨Nat.zero_le _, Nat.zero_le _⟩ (fun H locs hB => ?_)
    cases h
    exact gRetI S.1 S.2.1 hr hlk hB dX11_back_22
def FX11_restart (L : Nat)  (σ : MS) : Option (Int32 × MS) :=
  if (σ.1 18) = 0 then
    b2 (FX11_no (1 : Int32) (sI σ 0 (0 : Int32))) fun r_4 σ_4 =>
    some (r_4, σ_4)
  else
    b2 (FX11_begin L (sI σ 0 (0 : Int32))) fun (_ : Unit) σ_2 =>
    if ((3 : Int32) < 0 ∨ 4 ≤ (3 : Int32).toNatClampNeg) then none else
    some ((σ_2.2.1 23 (3 : Int32).toNatClampNeg), σ_2)
abbrev rmX11_restart : Room := { frames := 1, cells := 0, slots := 0, locals := 21 }
set_option maxRecDepth 100000 in
set_option maxHeartbeats 4000000 in
theorem kX11_restart {l : Launch} {D : va_G} {cI cJ : ClassId} {ad : Nat → Nat} {KS : (Nat → Prop) → State → Prop} {L : Nat} (hc : gC KS)  {σ σ' : MS} {r : Int32} (h : FX11_restart L  σ = some (r, σ')) : gMet l yX11_restart qX11_restart rmX11_restart 0 0 D vwCl [(cI, .int), (cJ, .long)] KS [.ref (ad 0)] (MW cI cJ ad σ) (MW cI cJ ad σ') (some (.int r)) := by
  refine gMet.of (cc := cX11_restart) (maxL := 1) (ret := (some .int)) (by decide) rfl (Nat.le_of_ble_eq_true rfl) ?_
  intro p e s m args below meth c S hr hlk hnm hK hKS hA hB ls hl
  have hl : lv_has ls 1 [(0, .ref (ad 0))] := hl
  replace S : CallFix p m c cX11_restart 1 s args (_ :: wsL_law) RX11 := S
  rw [FX11_restart] at h
  refine lv_aload_n S.1 S.2.1 dX11_restart_0 rfl (lv_at hl 0 rfl) ?_
  refine lv_iconst (v := (0 : Int32)) S.1 S.2.1 dX11_restart_1 (by decide) ?_
  refine mp_thrown S hK hB wf_X11_91 dX11_restart_2 (fun H locs hB => ?_)
  refine lv_aload_n S.1 S.2.1 dX11_restart_5 rfl (lv_at hl 0 rfl) ?_
  refine mg_isThere (v := (σ.1 18)) S hK hB wf_X11_362 rfl dX11_restart_6 ?_
  refine lv_if_ne (tgt := 18) S.1 S.2.1 dX11_restart_9 (by decide) (fun c_1 => ?_) (fun c_1 => ?_)
  · replace h := (if_neg c_1).symm.trans h
    refine lv_aload_n S.1 S.2.1 dX11_restart_18 rfl (lv_at hl 0 rfl) ?_
    obtain ⟨_, σ_2, e_2, h⟩ := b2s h
    refine mCallV S hK hc hKS hA (kX11_begin hc e_2) (cwX11_384 S.2.2.2.2 (rm := rmX11_begin) rfl rfl ⟨Nat.le_of_ble_eq_true rfl, Nat.le_of_ble_eq_true rfl⟩) hB rfl hl.1 rfl (lv_room (Nat.le_of_ble_eq_true rfl)) dX11_restart_19 ⟨Nat.zero_le _, Nat.zero_le _⟩ (fun H locs hB => ?_)
    refine lv_aload_n S.1 S.2.1 dX11_restart_22 rfl (lv_at hl 0 rfl) ?_
    refine mg_many S hK hB wf_X11_61 dX11_restart_23 ?_
    refine lv_iconst (v := (3 : Int32)) S.1 S.2.1 dX11_restart_26 (by decide) ?_
    obtain ⟨b_3, h⟩ := gd h
    refine ml_many (v := (σ_2.2.1 23 (3 : Int32).toNatClampNeg)) S hK hB b_3 rfl dX11_restart_27 ?_
    cases h
    exact gRetI S.1 S.2.1 hr hlk hB dX11_restart_28
  · replace h := (if_pos c_1).symm.trans h
    refine lv_aload_n S.1 S.2.1 dX11_restart_12 rfl (lv_at hl 0 rfl) ?_
    refine lv_iconst (v := (1 : Int32)) S.1 S.2.1 dX11_restart_13 (by decide) ?_
    obtain ⟨r_4, σ_4, e_4, h⟩ := b2s h
    refine mCallI S hK hc hKS hA (kX11_no hc e_4) (cwX11_97 S.2.2.2.2 (rm := rmX11_no) rfl rfl ⟨Nat.le_of_ble_eq_true rfl, Nat.le_of_ble_eq_true rfl⟩) hB rfl hl.1 rfl (lv_room (Nat.le_of_ble_eq_true rfl)) dX11_restart_14 ⟨Nat.zero_le _, Nat.zero_le _⟩ (fun H locs hB => ?_)
    cases h
    exact gRetI S.1 S.2.1 hr hlk hB dX11_restart_17
def FX11_replay_36 (L : Nat) (k26 : Int32 → Int32 → MS → Option (Int32 × MS)) : Nat → Int32 → Int32 → Int32 → MS → Option (Int32 × MS)
  | 0, _, _, _, _ => none
  | n+1, x1, x2, x3, σ1 =>
    if ((0 : Int32) < 0 ∨ 4 ≤ (0 : Int32).toNatClampNeg) then none else
    if (if (σ1.1 34) < (σ1.2.1 23 (0 : Int32).toNatClampNeg) then (σ1.1 34) else (σ1.2.1 23 (0 : Int32).toNatClampNeg)) ≤ x3 then
      if (x2 < 0 ∨ 120 ≤ x2.toNatClampNeg) then none else
      b2 (FX11_step L (σ1.2.1 35 x2.toNatClampNeg) σ1) fun r_7 σ_7 =>
      if r_7 = 0 then
        k26 (x1 + (1 : Int32)) (x2 + (1 : Int32)) σ_7
      else
        k26 (x1 + (0 : Int32)) (x2 + (1 : Int32)) σ_7
    else
      if ((((8 : Int32) * x2) + x3) < 0 ∨ 960 ≤ (((8 : Int32) * x2) + x3).toNatClampNeg) then none else
      if (x3 < 0 ∨ 8 ≤ x3.toNatClampNeg) then none else
      (FX11_replay_36 L k26 n) x1 x2 (x3 + (1 : Int32)) (sB σ1 32 (vp_updL (σ1.2.2 32) x3.toNatClampNeg (σ1.2.2 36 (((8 : Int32) * x2) + x3).toNatClampNeg)))
def FX11_replay_26 (L : Nat)  : Nat → Int32 → Int32 → MS → Option (Int32 × MS)
  | 0, _, _, _ => none
  | n+1, x1, x2, σ1 =>
    if (σ1.1 33) ≤ x2 then
      some (x1, σ1)
    else
      FX11_replay_36 L (FX11_replay_26 L n) L x1 x2 (0 : Int32) σ1
def FX11_replay (L : Nat)  (σ : MS) : Option (Int32 × MS) :=
  if (σ.1 18) = 0 then
    b2 (FX11_no (1 : Int32) (sI σ 0 (0 : Int32))) fun r_11 σ_11 =>
    some (r_11, σ_11)
  else
    b2 (FX11_begin L (sI σ 0 (0 : Int32))) fun (_ : Unit) σ_2 =>
    FX11_replay_26 L L (0 : Int32) (0 : Int32) σ_2
abbrev rmX11_replay : Room := { frames := 6, cells := 0, slots := 0, locals := 143 }
set_option maxRecDepth 100000 in
set_option maxHeartbeats 4000000 in
theorem kX11_replay {l : Launch} {D : va_G} {cI cJ : ClassId} {ad : Nat → Nat} {KS : (Nat → Prop) → State → Prop} {L : Nat} (hc : gC KS)  {σ σ' : MS} {r : Int32} (h : FX11_replay L  σ = some (r, σ')) : gMet l yX11_replay qX11_replay rmX11_replay 0 0 D vwCl [(cI, .int), (cJ, .long)] KS [.ref (ad 0)] (MW cI cJ ad σ) (MW cI cJ ad σ') (some (.int r)) := by
  refine gMet.of (cc := cX11_replay) (maxL := 4) (ret := (some .int)) (by decide) rfl (Nat.le_of_ble_eq_true rfl) ?_
  intro p e s m args below meth c S hr hlk hnm hK hKS hA hB ls hl
  have hl : lv_has ls 4 [(0, .ref (ad 0))] := hl
  replace S : CallFix p m c cX11_replay 4 s args (_ :: wsL_law) RX11 := S
  rw [FX11_replay] at h
  have P36 : ∀ (k26 : Int32 → Int32 → MS → Option (Int32 × MS)) (hk26 : ∀ (x1 : Int32) (x2 : Int32) (σ1 : MS) (H : Heap) (locs : List Loc) (ls : Array Slot), k26 x1 x2 σ1 = some (r, σ') → gB D vwCl (va_A (MW cI cJ ad σ) s.heap.size) s.heap (MW cI cJ ad σ1) [] H locs → lv_has ls 4 [(0, .ref (ad 0)), (1, .int x1), (2, .int x2)] → W p l e rmX11_replay s m args below meth c H locs 0 0 (MQ below (gQ D vwCl (MW cI cJ ad σ) (MW cI cJ ad σ') (some (.int r)) s.heap.size) args s 0 0 (va_A (MW cI cJ ad σ) s.heap.size)) (F0 m 26 ls [])) (n : Nat), ∀ (x1 : Int32) (x2 : Int32) (x3 : Int32) (σ1 : MS) (H : Heap) (locs : List Loc) (ls : Array Slot), FX11_replay_36 L k26 n x1 x2 x3 σ1 = some (r, σ') → gB D vwCl (va_A (MW cI cJ ad σ) s.heap.size) s.heap (MW cI cJ ad σ1) [] H locs → lv_has ls 4 [(0, .ref (ad 0)), (1, .int x1), (2, .int x2), (3, .int x3)] → W p l e rmX11_replay s m args below meth c H locs 0 0 (MQ below (gQ D vwCl (MW cI cJ ad σ) (MW cI cJ ad σ') (some (.int r)) s.heap.size) args s 0 0 (va_A (MW cI cJ ad σ) s.heap.size)) (F0 m 36 ls []) := by
    intro k26 hk26
    intro n
    induction n with
    | zero => intro x1 x2 x3 σ1 H locs ls h; simp only [FX11_replay_36] at h; cases h
    | succ n ih =>
      intro x1 x2 x3 σ1 H locs ls h hB hl
      rw [FX11_replay_36] at h
      refine lv_iload_n S.1 S.2.1 dX11_replay_36 rfl (lv_at hl 3 rfl) ?_
      refine lv_aload_n S.1 S.2.1 dX11_replay_37 rfl (lv_at hl 0 rfl) ?_
      refine mg_many S hK hB wf_X11_61 dX11_replay_38 ?_
      refine lv_iconst (v := (0 : Int32)) S.1 S.2.1 dX11_replay_41 (by decide) ?_
      obtain ⟨b_4, h⟩ := gd h
      refine ml_many (v := (σ1.2.1 23 (0 : Int32).toNatClampNeg)) S hK hB b_4 rfl dX11_replay_42 ?_
      refine lv_aload_n S.1 S.2.1 dX11_replay_43 rfl (lv_at hl 0 rfl) ?_
      refine mg_keptMany S hK hB wf_X11_451 rfl dX11_replay_44 ?_
      refine va_mmin S.1 S.2.1 (S.2.2.1.trans hl.1.symm) S.2.2.2.1 (S.2.2.2.2 _ (List.mem_cons_of_mem _ wm_X11_460)) (S.2.2.2.2 _ (List.mem_cons_of_mem _ wo_static_Math_min_name)) (S.2.2.2.2 _ (List.mem_cons_of_mem _ wo_init_Math)) (S.2.2.2.2 _ (List.mem_cons_of_mem _ wo_code_Math_min_name)) (Nat.le_of_ble_eq_true rfl) (Nat.le_of_ble_eq_true rfl) (Nat.zero_le _) (Nat.zero_le _) dX11_replay_47 ?_
      refine lv_icmp_ge (tgt := 76) S.1 S.2.1 dX11_replay_50 (by decide) (fun c_5 => ?_) (fun c_5 => ?_)
      · replace h := (if_pos c_5).symm.trans h
        refine lv_iload_n S.1 S.2.1 dX11_replay_76 rfl (lv_at hl 1 rfl) ?_
        refine lv_aload_n S.1 S.2.1 dX11_replay_77 rfl (lv_at hl 0 rfl) ?_
        refine lv_aload_n S.1 S.2.1 dX11_replay_78 rfl (lv_at hl 0 rfl) ?_
        refine mg_keptTimes S hK hB wf_X11_85 dX11_replay_79 ?_
        refine lv_iload_n S.1 S.2.1 dX11_replay_82 rfl (lv_at hl 2 rfl) ?_
        obtain ⟨b_6, h⟩ := gd h
        refine ml_keptTimes (v := (σ1.2.1 35 x2.toNatClampNeg)) S hK hB b_6 rfl dX11_replay_83 ?_
        obtain ⟨r_7, σ_7, e_7, h⟩ := b2s h
        refine mCallI S hK hc hKS hA (kX11_step hc e_7) (cwX11_449 S.2.2.2.2 (rm := rmX11_step) rfl rfl ⟨Nat.le_of_ble_eq_true rfl, Nat.le_of_ble_eq_true rfl⟩) hB rfl hl.1 rfl (lv_room (Nat.le_of_ble_eq_true rfl)) dX11_replay_84 ⟨Nat.zero_le _, Nat.zero_le _⟩ (fun H locs hB => ?_)
        refine lv_if_ne (tgt := 94) S.1 S.2.1 dX11_replay_87 (by decide) (fun c_8 => ?_) (fun c_8 => ?_)
        · replace h := (if_neg c_8).symm.trans h
          refine lv_iconst (v := (0 : Int32)) S.1 S.2.1 dX11_replay_94 (by decide) ?_
          refine lv_iadd S.1 S.2.1 dX11_replay_95 ?_
          refine lv_istore_n (lv' := [(1, .int (x1 + (0 : Int32))), (0, .ref (ad 0)), (2, .int x2), (3, .int x3)]) S.1 S.2.1 dX11_replay_96 rfl hl (by decide) rfl (fun ls hl => ?_)
          refine lv_iinc (v := (x2 + (1 : Int32))) (lv' := [(2, .int (x2 + (1 : Int32))), (1, .int (x1 + (0 : Int32))), (0, .ref (ad 0)), (3, .int x3)]) S.1 S.2.1 dX11_replay_97 hl (k := 2) rfl rfl (by decide) rfl (fun ls hl => ?_)
          refine lv_goto (tgt := 26) S.1 S.2.1 dX11_replay_100 (by decide) ?_
          exact hk26 _ _ _ _ _ _ h hB (lv_sub hl [2, 1, 0] rfl)
        · replace h := (if_pos c_8).symm.trans h
          refine lv_iconst (v := (1 : Int32)) S.1 S.2.1 dX11_replay_90 (by decide) ?_
          refine lv_goto (tgt := 95) S.1 S.2.1 dX11_replay_91 (by decide) ?_
          refine lv_iadd S.1 S.2.1 dX11_replay_95 ?_
          refine lv_istore_n (lv' := [(1, .int (x1 + (1 : Int32))), (0, .ref (ad 0)), (2, .int x2), (3, .int x3)]) S.1 S.2.1 dX11_replay_96 rfl hl (by decide) rfl (fun ls hl => ?_)
          refine lv_iinc (v := (x2 + (1 : Int32))) (lv' := [(2, .int (x2 + (1 : Int32))), (1, .int (x1 + (1 : Int32))), (0, .ref (ad 0)), (3, .int x3)]) S.1 S.2.1 dX11_replay_97 hl (k := 2) rfl rfl (by decide) rfl (fun ls hl => ?_)
          refine lv_goto (tgt := 26) S.1 S.2.1 dX11_replay_100 (by decide) ?_
          exact hk26 _ _ _ _ _ _ h hB (lv_sub hl [2, 1, 0] rfl)
      · replace h := (if_neg c_5).symm.trans h
        refine lv_aload_n S.1 S.2.1 dX11_replay_53 rfl (lv_at hl 0 rfl) ?_
        refine mg_now S hK hB wf_X11_82 dX11_replay_54 ?_
        refine lv_iload_n S.1 S.2.1 dX11_replay_57 rfl (lv_at hl 3 rfl) ?_
        refine lv_aload_n S.1 S.2.1 dX11_replay_58 rfl (lv_at hl 0 rfl) ?_
        refine mg_keptSignals S hK hB wf_X11_88 dX11_replay_59 ?_
        refine lv_bipush (v := (8 : Int32)) S.1 S.2.1 dX11_replay_62 (by decide) ?_
        refine lv_iload_n S.1 S.2.1 dX11_replay_64 rfl (lv_at hl 2 rfl) ?_
        refine lv_imul S.1 S.2.1 dX11_replay_65 ?_
        refine lv_iload_n S.1 S.2.1 dX11_replay_66 rfl (lv_at hl 3 rfl) ?_
        refine lv_iadd S.1 S.2.1 dX11_replay_67 ?_
        obtain ⟨b_9, h⟩ := gd h
        refine ml_keptSignals (v := (σ1.2.2 36 (((8 : Int32) * x2) + x3).toNatClampNeg)) S hK hB b_9 rfl dX11_replay_68 ?_
        obtain ⟨b_10, h⟩ := gd h
        refine ms_now S hK hB b_10 dX11_replay_69 (fun H locs hB => ?_)
        refine lv_iinc (v := (x3 + (1 : Int32))) (lv' := [(3, .int (x3 + (1 : Int32))), (0, .ref (ad 0)), (1, .int x1), (2, .int x2)]) S.1 S.2.1 dX11_replay_70 hl (k := 3) rfl rfl (by decide) rfl (fun ls hl => ?_)
        refine lv_goto (tgt := 36) S.1 S.2.1 dX11_replay_73 (by decide) ?_
        exact ih _ _ _ _ _ _ _ h hB (lv_sub hl [1, 2, 3, 0] rfl)
  have P26 : ∀  (n : Nat), ∀ (x1 : Int32) (x2 : Int32) (σ1 : MS) (H : Heap) (locs : List Loc) (ls : Array Slot), FX11_replay_26 L n x1 x2 σ1 = some (r, σ') → gB D vwCl (va_A (MW cI cJ ad σ) s.heap.size) s.heap (MW cI cJ ad σ1) [] H locs → lv_has ls 4 [(0, .ref (ad 0)), (1, .int x1), (2, .int x2)] → W p l e rmX11_replay s m args below meth c H locs 0 0 (MQ below (gQ D vwCl (MW cI cJ ad σ) (MW cI cJ ad σ') (some (.int r)) s.heap.size) args s 0 0 (va_A (MW cI cJ ad σ) s.heap.size)) (F0 m 26 ls []) := by
    intro n
    induction n with
    | zero => intro x1 x2 σ1 H locs ls h; simp only [FX11_replay_26] at h; cases h
    | succ n ih =>
      intro x1 x2 σ1 H locs ls h hB hl
      rw [FX11_replay_26] at h
      refine lv_iload_n S.1 S.2.1 dX11_replay_26 rfl (lv_at hl 2 rfl) ?_
      refine lv_aload_n S.1 S.2.1 dX11_replay_27 rfl (lv_at hl 0 rfl) ?_
      refine mg_kept S hK hB wf_X11_387 rfl dX11_replay_28 ?_
      refine lv_icmp_ge (tgt := 103) S.1 S.2.1 dX11_replay_31 (by decide) (fun c_3 => ?_) (fun c_3 => ?_)
      · replace h := (if_pos c_3).symm.trans h
        refine lv_iload_n S.1 S.2.1 dX11_replay_103 rfl (lv_at hl 1 rfl) ?_
        cases h
        exact gRetI S.1 S.2.1 hr hlk hB dX11_replay_104
      · replace h := (if_neg c_3).symm.trans h
        refine lv_iconst (v := (0 : Int32)) S.1 S.2.1 dX11_replay_34 (by decide) ?_
        refine lv_istore_n (lv' := [(3, .int (0 : Int32)), (0, .ref (ad 0)), (1, .int x1), (2, .int x2)]) S.1 S.2.1 dX11_replay_35 rfl hl (by decide) rfl (fun ls hl => ?_)
        exact P36 (FX11_replay_26 L n) ih L _ _ _ _ _ _ _ h hB (lv_sub hl [1, 2, 3, 0] rfl)
  refine lv_aload_n S.1 S.2.1 dX11_replay_0 rfl (lv_at hl 0 rfl) ?_
  refine lv_iconst (v := (0 : Int32)) S.1 S.2.1 dX11_replay_1 (by decide) ?_
  refine mp_thrown S hK hB wf_X11_91 dX11_replay_2 (fun H locs hB => ?_)
  refine lv_aload_n S.1 S.2.1 dX11_replay_5 rfl (lv_at hl 0 rfl) ?_
  refine mg_isThere (v := (σ.1 18)) S hK hB wf_X11_362 rfl dX11_replay_6 ?_
  refine lv_if_ne (tgt := 18) S.1 S.2.1 dX11_replay_9 (by decide) (fun c_1 => ?_) (fun c_1 => ?_)
  · replace h := (if_neg c_1).symm.trans h
    refine lv_aload_n S.1 S.2.1 dX11_replay_18 rfl (lv_at hl 0 rfl) ?_
    obtain ⟨_, σ_2, e_2, h⟩ := b2s h
    refine mCallV S hK hc hKS hA (kX11_begin hc e_2) (cwX11_384 S.2.2.2.2 (rm := rmX11_begin) rfl rfl ⟨Nat.le_of_ble_eq_true rfl, Nat.le_of_ble_eq_true rfl⟩) hB rfl hl.1 rfl (lv_room (Nat.le_of_ble_eq_true rfl)) dX11_replay_19 ⟨Nat.zero_le _, Nat.zero_le _⟩ (fun H locs hB => ?_)
    refine lv_iconst (v := (0 : Int32)) S.1 S.2.1 dX11_replay_22 (by decide) ?_
    refine lv_istore_n (lv' := [(1, .int (0 : Int32)), (0, .ref (ad 0))]) S.1 S.2.1 dX11_replay_23 rfl hl (by decide) rfl (fun ls hl => ?_)
    refine lv_iconst (v := (0 : Int32)) S.1 S.2.1 dX11_replay_24 (by decide) ?_
    refine lv_istore_n (lv' := [(2, .int (0 : Int32)), (1, .int (0 : Int32)), (0, .ref (ad 0))]) S.1 S.2.1 dX11_replay_25 rfl hl (by decide) rfl (fun ls hl => ?_)
    exact P26  L _ _ _ _ _ _ h hB (lv_sub hl [2, 1, 0] rfl)
  · replace h := (if_pos c_1).symm.trans h
    refine lv_aload_n S.1 S.2.1 dX11_replay_12 rfl (lv_at hl 0 rfl) ?_
    refine lv_iconst (v := (1 : Int32)) S.1 S.2.1 dX11_replay_13 (by decide) ?_
    obtain ⟨r_11, σ_11, e_11, h⟩ := b2s h
    refine mCallI S hK hc hKS hA (kX11_no hc e_11) (cwX11_97 S.2.2.2.2 (rm := rmX11_no) rfl rfl ⟨Nat.le_of_ble_eq_true rfl, Nat.le_of_ble_eq_true rfl⟩) hB rfl hl.1 rfl (lv_room (Nat.le_of_ble_eq_true rfl)) dX11_replay_14 ⟨Nat.zero_le _, Nat.zero_le _⟩ (fun H locs hB => ?_)
    cases h
    exact gRetI S.1 S.2.1 hr hlk hB dX11_replay_17
def FX11_time (p0 : Int32) (σ : MS) : Option (Int32 × MS) :=
  b2 (FX11_isStep p0 (sI σ 0 (0 : Int32))) fun r_1 σ_1 =>
  if r_1 = 0 then
    b2 (FX11_no (1 : Int32) σ_1) fun r_3 σ_3 =>
    some (r_3, σ_3)
  else
    if (p0 < 0 ∨ 120 ≤ p0.toNatClampNeg) then none else
    some ((σ_1.2.1 30 p0.toNatClampNeg), σ_1)
abbrev rmX11_time : Room := { frames := 2, cells := 0, slots := 0, locals := 43 }
set_option maxRecDepth 100000 in
set_option maxHeartbeats 4000000 in
theorem kX11_time {l : Launch} {D : va_G} {cI cJ : ClassId} {ad : Nat → Nat} {KS : (Nat → Prop) → State → Prop} (hc : gC KS) {p0 : Int32} {σ σ' : MS} {r : Int32} (h : FX11_time p0 σ = some (r, σ')) : gMet l yX11_time qX11_time rmX11_time 0 0 D vwCl [(cI, .int), (cJ, .long)] KS [.ref (ad 0), .int p0] (MW cI cJ ad σ) (MW cI cJ ad σ') (some (.int r)) := by
  refine gMet.of (cc := cX11_time) (maxL := 2) (ret := (some .int)) (by decide) rfl (Nat.le_of_ble_eq_true rfl) ?_
  intro p e s m args below meth c S hr hlk hnm hK hKS hA hB ls hl
  have hl : lv_has ls 2 [(0, .ref (ad 0)), (1, .int p0)] := hl
  replace S : CallFix p m c cX11_time 2 s args (_ :: wsL_law) RX11 := S
  rw [FX11_time] at h
  refine lv_aload_n S.1 S.2.1 dX11_time_0 rfl (lv_at hl 0 rfl) ?_
  refine lv_iconst (v := (0 : Int32)) S.1 S.2.1 dX11_time_1 (by decide) ?_
  refine mp_thrown S hK hB wf_X11_91 dX11_time_2 (fun H locs hB => ?_)
  refine lv_aload_n S.1 S.2.1 dX11_time_5 rfl (lv_at hl 0 rfl) ?_
  refine lv_iload_n S.1 S.2.1 dX11_time_6 rfl (lv_at hl 1 rfl) ?_
  obtain ⟨r_1, σ_1, e_1, h⟩ := b2s h
  refine mCallI S hK hc hKS hA (kX11_isStep hc e_1) (cwX11_462 S.2.2.2.2 (rm := rmX11_isStep) rfl rfl ⟨Nat.le_of_ble_eq_true rfl, Nat.le_of_ble_eq_true rfl⟩) hB rfl hl.1 rfl (lv_room (Nat.le_of_ble_eq_true rfl)) dX11_time_7 ⟨Nat.zero_le _, Nat.zero_le _⟩ (fun H locs hB => ?_)
  refine lv_if_eq (tgt := 22) S.1 S.2.1 dX11_time_10 (by decide) (fun c_2 => ?_) (fun c_2 => ?_)
  · replace h := (if_pos c_2).symm.trans h
    refine lv_aload_n S.1 S.2.1 dX11_time_22 rfl (lv_at hl 0 rfl) ?_
    refine lv_iconst (v := (1 : Int32)) S.1 S.2.1 dX11_time_23 (by decide) ?_
    obtain ⟨r_3, σ_3, e_3, h⟩ := b2s h
    refine mCallI S hK hc hKS hA (kX11_no hc e_3) (cwX11_97 S.2.2.2.2 (rm := rmX11_no) rfl rfl ⟨Nat.le_of_ble_eq_true rfl, Nat.le_of_ble_eq_true rfl⟩) hB rfl hl.1 rfl (lv_room (Nat.le_of_ble_eq_true rfl)) dX11_time_24 ⟨Nat.zero_le _, Nat.zero_le _⟩ (fun H locs hB => ?_)
    cases h
    exact gRetI S.1 S.2.1 hr hlk hB dX11_time_27
  · replace h := (if_neg c_2).symm.trans h
    refine lv_aload_n S.1 S.2.1 dX11_time_13 rfl (lv_at hl 0 rfl) ?_
    refine mg_times S hK hB wf_X11_76 dX11_time_14 ?_
    refine lv_iload_n S.1 S.2.1 dX11_time_17 rfl (lv_at hl 1 rfl) ?_
    obtain ⟨b_4, h⟩ := gd h
    refine ml_times (v := (σ_1.2.1 30 p0.toNatClampNeg)) S hK hB b_4 rfl dX11_time_18 ?_
    refine lv_goto (tgt := 27) S.1 S.2.1 dX11_time_19 (by decide) ?_
    cases h
    exact gRetI S.1 S.2.1 hr hlk hB dX11_time_27
def FX11_signal_30  (x1 : Int32) (x2 : Int32) (y1 : Int32) (σ1 : MS) : Option (Int64 × MS) :=
    if y1 = 0 then
      if ((((8 : Int32) * x2) + x1) < 0 ∨ 960 ≤ (((8 : Int32) * x2) + x1).toNatClampNeg) then none else
      some ((σ1.2.2 31 (((8 : Int32) * x2) + x1).toNatClampNeg), (sI σ1 0 y1))
    else
      some ((0 : Int64), (sI σ1 0 y1))
def FX11_signal_29  (x1 : Int32) (x2 : Int32) (σ1 : MS) : Option (Int64 × MS) :=
    FX11_signal_30 x1 x2 (1 : Int32) σ1
def FX11_signal (p0 : Int32) (p1 : Int32) (σ : MS) : Option (Int64 × MS) :=
  if ((0 : Int32) < 0 ∨ 4 ≤ (0 : Int32).toNatClampNeg) then none else
  (FX11_isIn p0 (0 : Int32) ((σ.2.1 23 (0 : Int32).toNatClampNeg) - (1 : Int32))).bind fun r_2 =>
  if r_2 = 0 then
    FX11_signal_29 p0 p1 σ
  else
    b2 (FX11_isStep p1 σ) fun r_6 σ_6 =>
    if r_6 = 0 then
      FX11_signal_29 p0 p1 σ_6
    else
      FX11_signal_30 p0 p1 (0 : Int32) σ_6
abbrev rmX11_signal : Room := { frames := 2, cells := 0, slots := 0, locals := 43 }
set_option maxRecDepth 100000 in
set_option maxHeartbeats 4000000 in
theorem kX11_signal {l : Launch} {D : va_G} {cI cJ : ClassId} {ad : Nat → Nat} {KS : (Nat → Prop) → State → Prop} (hc : gC KS) {p0 : Int32} {p1 : Int32} {σ σ' : MS} {r : Int64} (h : FX11_signal p0 p1 σ = some (r, σ')) : gMet l yX11_signal qX11_signal rmX11_signal 0 0 D vwCl [(cI, .int), (cJ, .long)] KS [.ref (ad 0), .int p0, .int p1] (MW cI cJ ad σ) (MW cI cJ ad σ') (some (.long r)) := by
  refine gMet.of (cc := cX11_signal) (maxL := 3) (ret := (some .long)) (by decide) rfl (Nat.le_of_ble_eq_true rfl) ?_
  intro p e s m args below meth c S hr hlk hnm hK hKS hA hB ls hl
  have hl : lv_has ls 3 [(0, .ref (ad 0)), (1, .int p0), (2, .int p1)] := hl
  replace S : CallFix p m c cX11_signal 3 s args (_ :: wsL_law) RX11 := S
  rw [FX11_signal] at h
  have P30 : ∀ (x1 : Int32) (x2 : Int32) (y1 : Int32) (σ1 : MS) (H : Heap) (locs : List Loc) (ls : Array Slot), FX11_signal_30 x1 x2 y1 σ1 = some (r, σ') → gB D vwCl (va_A (MW cI cJ ad σ) s.heap.size) s.heap (MW cI cJ ad σ1) [] H locs → lv_has ls 3 [(0, .ref (ad 0)), (1, .int x1), (2, .int x2)] → W p l e rmX11_signal s m args below meth c H locs 0 0 (MQ below (gQ D vwCl (MW cI cJ ad σ) (MW cI cJ ad σ') (some (.long r)) s.heap.size) args s 0 0 (va_A (MW cI cJ ad σ) s.heap.size)) (F0 m 30 ls [.int y1, .ref (ad 0)]) := by
    intro  x1 x2 y1 σ1 H locs ls h hB hl
    rw [FX11_signal_30] at h
    refine mp_thrown S hK hB wf_X11_91 dX11_signal_30 (fun H locs hB => ?_)
    refine lv_aload_n S.1 S.2.1 dX11_signal_33 rfl (lv_at hl 0 rfl) ?_
    refine mg_thrown (v := y1) S hK hB wf_X11_91 rfl dX11_signal_34 ?_
    refine lv_if_ne (tgt := 54) S.1 S.2.1 dX11_signal_37 (by decide) (fun c_4 => ?_) (fun c_4 => ?_)
    · replace h := (if_neg c_4).symm.trans h
      refine lv_lconst (v := 0) S.1 S.2.1 dX11_signal_54 (by decide) ?_
      cases h
      exact gRetL S.1 S.2.1 hr hlk hB dX11_signal_55
    · replace h := (if_pos c_4).symm.trans h
      refine lv_aload_n S.1 S.2.1 dX11_signal_40 rfl (lv_at hl 0 rfl) ?_
      refine mg_signals S hK hB wf_X11_79 dX11_signal_41 ?_
      refine lv_bipush (v := (8 : Int32)) S.1 S.2.1 dX11_signal_44 (by decide) ?_
      refine lv_iload_n S.1 S.2.1 dX11_signal_46 rfl (lv_at hl 2 rfl) ?_
      refine lv_imul S.1 S.2.1 dX11_signal_47 ?_
      refine lv_iload_n S.1 S.2.1 dX11_signal_48 rfl (lv_at hl 1 rfl) ?_
      refine lv_iadd S.1 S.2.1 dX11_signal_49 ?_
      obtain ⟨b_5, h⟩ := gd h
      refine ml_signals (v := (σ1.2.2 31 (((8 : Int32) * x2) + x1).toNatClampNeg)) S hK hB b_5 rfl dX11_signal_50 ?_
      refine lv_goto (tgt := 55) S.1 S.2.1 dX11_signal_51 (by decide) ?_
      cases h
      exact gRetL S.1 S.2.1 hr hlk hB dX11_signal_55
  have P29 : ∀ (x1 : Int32) (x2 : Int32) (σ1 : MS) (H : Heap) (locs : List Loc) (ls : Array Slot), FX11_signal_29 x1 x2 σ1 = some (r, σ') → gB D vwCl (va_A (MW cI cJ ad σ) s.heap.size) s.heap (MW cI cJ ad σ1) [] H locs → lv_has ls 3 [(0, .ref (ad 0)), (1, .int x1), (2, .int x2)] → W p l e rmX11_signal s m args below meth c H locs 0 0 (MQ below (gQ D vwCl (MW cI cJ ad σ) (MW cI cJ ad σ') (some (.long r)) s.heap.size) args s 0 0 (va_A (MW cI cJ ad σ) s.heap.size)) (F0 m 29 ls [.ref (ad 0)]) := by
    intro  x1 x2 σ1 H locs ls h hB hl
    rw [FX11_signal_29] at h
    refine lv_iconst (v := (1 : Int32)) S.1 S.2.1 dX11_signal_29 (by decide) ?_
    exact P30  _ _ _ _ _ _ _ h hB hl
  refine lv_aload_n S.1 S.2.1 dX11_signal_0 rfl (lv_at hl 0 rfl) ?_
  refine lv_iload_n S.1 S.2.1 dX11_signal_1 rfl (lv_at hl 1 rfl) ?_
  refine lv_iconst (v := (0 : Int32)) S.1 S.2.1 dX11_signal_2 (by decide) ?_
  refine lv_aload_n S.1 S.2.1 dX11_signal_3 rfl (lv_at hl 0 rfl) ?_
  refine mg_many S hK hB wf_X11_61 dX11_signal_4 ?_
  refine lv_iconst (v := (0 : Int32)) S.1 S.2.1 dX11_signal_7 (by decide) ?_
  obtain ⟨b_1, h⟩ := gd h
  refine ml_many (v := (σ.2.1 23 (0 : Int32).toNatClampNeg)) S hK hB b_1 rfl dX11_signal_8 ?_
  refine lv_iconst (v := (1 : Int32)) S.1 S.2.1 dX11_signal_9 (by decide) ?_
  refine lv_isub S.1 S.2.1 dX11_signal_10 ?_
  obtain ⟨r_2, e_2, h⟩ := bnd h
  refine mCallSI S hK hc hKS hA (kX11_isIn hc e_2) (cwX11_101 S.2.2.2.2 (rm := rmX11_isIn) rfl rfl ⟨Nat.le_of_ble_eq_true rfl, Nat.le_of_ble_eq_true rfl⟩) hB rfl hl.1 rfl (lv_room (Nat.le_of_ble_eq_true rfl)) dX11_signal_11 ⟨Nat.zero_le _, Nat.zero_le _⟩ (fun H locs hB => ?_)
  refine lv_if_eq (tgt := 29) S.1 S.2.1 dX11_signal_14 (by decide) (fun c_3 => ?_) (fun c_3 => ?_)
  · replace h := (if_pos c_3).symm.trans h
    exact P29  _ _ _ _ _ _ h hB hl
  · replace h := (if_neg c_3).symm.trans h
    refine lv_aload_n S.1 S.2.1 dX11_signal_17 rfl (lv_at hl 0 rfl) ?_
    refine lv_iload_n S.1 S.2.1 dX11_signal_18 rfl (lv_at hl 2 rfl) ?_
    obtain ⟨r_6, σ_6, e_6, h⟩ := b2s h
    refine mCallI S hK hc hKS hA (kX11_isStep hc e_6) (cwX11_462 S.2.2.2.2 (rm := rmX11_isStep) rfl rfl ⟨Nat.le_of_ble_eq_true rfl, Nat.le_of_ble_eq_true rfl⟩) hB rfl hl.1 rfl (lv_room (Nat.le_of_ble_eq_true rfl)) dX11_signal_19 ⟨Nat.zero_le _, Nat.zero_le _⟩ (fun H locs hB => ?_)
    refine lv_if_eq (tgt := 29) S.1 S.2.1 dX11_signal_22 (by decide) (fun c_7 => ?_) (fun c_7 => ?_)
    · replace h := (if_pos c_7).symm.trans h
      exact P29  _ _ _ _ _ _ h hB hl
    · replace h := (if_neg c_7).symm.trans h
      refine lv_iconst (v := (0 : Int32)) S.1 S.2.1 dX11_signal_25 (by decide) ?_
      refine lv_goto (tgt := 30) S.1 S.2.1 dX11_signal_26 (by decide) ?_
      exact P30  _ _ _ _ _ _ _ h hB hl
def FX11_value_30  (x1 : Int32) (x2 : Int32) (y1 : Int32) (σ1 : MS) : Option (Int64 × MS) :=
    if y1 = 0 then
      if (((24 : Int32) + x1) < 0 ∨ 48 ≤ ((24 : Int32) + x1).toNatClampNeg) then none else
      b2 (FX11_at (σ1.2.1 25 ((24 : Int32) + x1).toNatClampNeg) x2 (sI σ1 0 y1)) fun r_6 σ_6 =>
      some (r_6, σ_6)
    else
      some ((0 : Int64), (sI σ1 0 y1))
def FX11_value_29  (x1 : Int32) (x2 : Int32) (σ1 : MS) : Option (Int64 × MS) :=
    FX11_value_30 x1 x2 (1 : Int32) σ1
def FX11_value (p0 : Int32) (p1 : Int32) (σ : MS) : Option (Int64 × MS) :=
  if ((2 : Int32) < 0 ∨ 4 ≤ (2 : Int32).toNatClampNeg) then none else
  (FX11_isIn p0 (0 : Int32) ((σ.2.1 23 (2 : Int32).toNatClampNeg) - (1 : Int32))).bind fun r_2 =>
  if r_2 = 0 then
    FX11_value_29 p0 p1 σ
  else
    b2 (FX11_isStep p1 σ) fun r_7 σ_7 =>
    if r_7 = 0 then
      FX11_value_29 p0 p1 σ_7
    else
      FX11_value_30 p0 p1 (0 : Int32) σ_7
abbrev rmX11_value : Room := { frames := 2, cells := 0, slots := 0, locals := 43 }
set_option maxRecDepth 100000 in
set_option maxHeartbeats 4000000 in
theorem kX11_value {l : Launch} {D : va_G} {cI cJ : ClassId} {ad : Nat → Nat} {KS : (Nat → Prop) → State → Prop} (hc : gC KS) {p0 : Int32} {p1 : Int32} {σ σ' : MS} {r : Int64} (h : FX11_value p0 p1 σ = some (r, σ')) : gMet l yX11_value qX11_value rmX11_value 0 0 D vwCl [(cI, .int), (cJ, .long)] KS [.ref (ad 0), .int p0, .int p1] (MW cI cJ ad σ) (MW cI cJ ad σ') (some (.long r)) := by
  refine gMet.of (cc := cX11_value) (maxL := 3) (ret := (some .long)) (by decide) rfl (Nat.le_of_ble_eq_true rfl) ?_
  intro p e s m args below meth c S hr hlk hnm hK hKS hA hB ls hl
  have hl : lv_has ls 3 [(0, .ref (ad 0)), (1, .int p0), (2, .int p1)] := hl
  replace S : CallFix p m c cX11_value 3 s args (_ :: wsL_law) RX11 := S
  rw [FX11_value] at h
  have P30 : ∀ (x1 : Int32) (x2 : Int32) (y1 : Int32) (σ1 : MS) (H : Heap) (locs : List Loc) (ls : Array Slot), FX11_value_30 x1 x2 y1 σ1 = some (r, σ') → gB D vwCl (va_A (MW cI cJ ad σ) s.heap.size) s.heap (MW cI cJ ad σ1) [] H locs → lv_has ls 3 [(0, .ref (ad 0)), (1, .int x1), (2, .int x2)] → W p l e rmX11_value s m args below meth c H locs 0 0 (MQ below (gQ D vwCl (MW cI cJ ad σ) (MW cI cJ ad σ') (some (.long r)) s.heap.size) args s 0 0 (va_A (MW cI cJ ad σ) s.heap.size)) (F0 m 30 ls [.int y1, .ref (ad 0)]) := by
    intro  x1 x2 y1 σ1 H locs ls h hB hl
    rw [FX11_value_30] at h
    refine mp_thrown S hK hB wf_X11_91 dX11_value_30 (fun H locs hB => ?_)
    refine lv_aload_n S.1 S.2.1 dX11_value_33 rfl (lv_at hl 0 rfl) ?_
    refine mg_thrown (v := y1) S hK hB wf_X11_91 rfl dX11_value_34 ?_
    refine lv_if_ne (tgt := 57) S.1 S.2.1 dX11_value_37 (by decide) (fun c_4 => ?_) (fun c_4 => ?_)
    · replace h := (if_neg c_4).symm.trans h
      refine lv_lconst (v := 0) S.1 S.2.1 dX11_value_57 (by decide) ?_
      cases h
      exact gRetL S.1 S.2.1 hr hlk hB dX11_value_58
    · replace h := (if_pos c_4).symm.trans h
      refine lv_aload_n S.1 S.2.1 dX11_value_40 rfl (lv_at hl 0 rfl) ?_
      refine lv_aload_n S.1 S.2.1 dX11_value_41 rfl (lv_at hl 0 rfl) ?_
      refine mg_tops S hK hB wf_X11_67 dX11_value_42 ?_
      refine lv_bipush (v := (24 : Int32)) S.1 S.2.1 dX11_value_45 (by decide) ?_
      refine lv_iload_n S.1 S.2.1 dX11_value_47 rfl (lv_at hl 1 rfl) ?_
      refine lv_iadd S.1 S.2.1 dX11_value_48 ?_
      obtain ⟨b_5, h⟩ := gd h
      refine ml_tops (v := (σ1.2.1 25 ((24 : Int32) + x1).toNatClampNeg)) S hK hB b_5 rfl dX11_value_49 ?_
      refine lv_iload_n S.1 S.2.1 dX11_value_50 rfl (lv_at hl 2 rfl) ?_
      obtain ⟨r_6, σ_6, e_6, h⟩ := b2s h
      refine mCallL S hK hc hKS hA (kX11_at hc e_6) (cwX11_393 S.2.2.2.2 (rm := rmX11_at) rfl rfl ⟨Nat.le_of_ble_eq_true rfl, Nat.le_of_ble_eq_true rfl⟩) hB rfl hl.1 rfl (lv_room (Nat.le_of_ble_eq_true rfl)) dX11_value_51 ⟨Nat.zero_le _, Nat.zero_le _⟩ (fun H locs hB => ?_)
      refine lv_goto (tgt := 58) S.1 S.2.1 dX11_value_54 (by decide) ?_
      cases h
      exact gRetL S.1 S.2.1 hr hlk hB dX11_value_58
  have P29 : ∀ (x1 : Int32) (x2 : Int32) (σ1 : MS) (H : Heap) (locs : List Loc) (ls : Array Slot), FX11_value_29 x1 x2 σ1 = some (r, σ') → gB D vwCl (va_A (MW cI cJ ad σ) s.heap.size) s.heap (MW cI cJ ad σ1) [] H locs → lv_has ls 3 [(0, .ref (ad 0)), (1, .int x1), (2, .int x2)] → W p l e rmX11_value s m args below meth c H locs 0 0 (MQ below (gQ D vwCl (MW cI cJ ad σ) (MW cI cJ ad σ') (some (.long r)) s.heap.size) args s 0 0 (va_A (MW cI cJ ad σ) s.heap.size)) (F0 m 29 ls [.ref (ad 0)]) := by
    intro  x1 x2 σ1 H locs ls h hB hl
    rw [FX11_value_29] at h
    refine lv_iconst (v := (1 : Int32)) S.1 S.2.1 dX11_value_29 (by decide) ?_
    exact P30  _ _ _ _ _ _ _ h hB hl
  refine lv_aload_n S.1 S.2.1 dX11_value_0 rfl (lv_at hl 0 rfl) ?_
  refine lv_iload_n S.1 S.2.1 dX11_value_1 rfl (lv_at hl 1 rfl) ?_
  refine lv_iconst (v := (0 : Int32)) S.1 S.2.1 dX11_value_2 (by decide) ?_
  refine lv_aload_n S.1 S.2.1 dX11_value_3 rfl (lv_at hl 0 rfl) ?_
  refine mg_many S hK hB wf_X11_61 dX11_value_4 ?_
  refine lv_iconst (v := (2 : Int32)) S.1 S.2.1 dX11_value_7 (by decide) ?_
  obtain ⟨b_1, h⟩ := gd h
  refine ml_many (v := (σ.2.1 23 (2 : Int32).toNatClampNeg)) S hK hB b_1 rfl dX11_value_8 ?_
  refine lv_iconst (v := (1 : Int32)) S.1 S.2.1 dX11_value_9 (by decide) ?_
  refine lv_isub S.1 S.2.1 dX11_value_10 ?_
  obtain ⟨r_2, e_2, h⟩ := bnd h
  refine mCallSI S hK hc hKS hA (kX11_isIn hc e_2) (cwX11_101 S.2.2.2.2 (rm := rmX11_isIn) rfl rfl ⟨Nat.le_of_ble_eq_true rfl, Nat.le_of_ble_eq_true rfl⟩) hB rfl hl.1 rfl (lv_room (Nat.le_of_ble_eq_true rfl)) dX11_value_11 ⟨Nat.zero_le _, Nat.zero_le _⟩ (fun H locs hB => ?_)
  refine lv_if_eq (tgt := 29) S.1 S.2.1 dX11_value_14 (by decide) (fun c_3 => ?_) (fun c_3 => ?_)
  · replace h := (if_pos c_3).symm.trans h
    exact P29  _ _ _ _ _ _ h hB hl
  · replace h := (if_neg c_3).symm.trans h
    refine lv_aload_n S.1 S.2.1 dX11_value_17 rfl (lv_at hl 0 rfl) ?_
    refine lv_iload_n S.1 S.2.1 dX11_value_18 rfl (lv_at hl 2 rfl) ?_
    obtain ⟨r_7, σ_7, e_7, h⟩ := b2s h
    refine mCallI S hK hc hKS hA (kX11_isStep hc e_7) (cwX11_462 S.2.2.2.2 (rm := rmX11_isStep) rfl rfl ⟨Nat.le_of_ble_eq_true rfl, Nat.le_of_ble_eq_true rfl⟩) hB rfl hl.1 rfl (lv_room (Nat.le_of_ble_eq_true rfl)) dX11_value_19 ⟨Nat.zero_le _, Nat.zero_le _⟩ (fun H locs hB => ?_)
    refine lv_if_eq (tgt := 29) S.1 S.2.1 dX11_value_22 (by decide) (fun c_8 => ?_) (fun c_8 => ?_)
    · replace h := (if_pos c_8).symm.trans h
      exact P29  _ _ _ _ _ _ h hB hl
    · replace h := (if_neg c_8).symm.trans h
      refine lv_iconst (v := (0 : Int32)) S.1 S.2.1 dX11_value_25 (by decide) ?_
      refine lv_goto (tgt := 30) S.1 S.2.1 dX11_value_26 (by decide) ?_
      exact P30  _ _ _ _ _ _ _ h hB hl
def FX11_let_30  (x1 : Int32) (x2 : Int32) (y1 : Int32) (σ1 : MS) : Option (Int32 × MS) :=
    if y1 = 0 then
      if (((12 : Int32) + x1) < 0 ∨ 48 ≤ ((12 : Int32) + x1).toNatClampNeg) then none else
      b2 (FX11_holds (σ1.2.1 25 ((12 : Int32) + x1).toNatClampNeg) x2 (sI σ1 0 y1)) fun r_6 σ_6 =>
      if r_6 = 0 then
        some ((0 : Int32), σ_6)
      else
        some ((1 : Int32), σ_6)
    else
      some ((0 : Int32), (sI σ1 0 y1))
def FX11_let_29  (x1 : Int32) (x2 : Int32) (σ1 : MS) : Option (Int32 × MS) :=
    FX11_let_30 x1 x2 (1 : Int32) σ1
def FX11_let (p0 : Int32) (p1 : Int32) (σ : MS) : Option (Int32 × MS) :=
  if ((1 : Int32) < 0 ∨ 4 ≤ (1 : Int32).toNatClampNeg) then none else
  (FX11_isIn p0 (0 : Int32) ((σ.2.1 23 (1 : Int32).toNatClampNeg) - (1 : Int32))).bind fun r_2 =>
  if r_2 = 0 then
    FX11_let_29 p0 p1 σ
  else
    b2 (FX11_isStep p1 σ) fun r_8 σ_8 =>
    if r_8 = 0 then
      FX11_let_29 p0 p1 σ_8
    else
      FX11_let_30 p0 p1 (0 : Int32) σ_8
abbrev rmX11_let : Room := { frames := 2, cells := 0, slots := 0, locals := 44 }
set_option maxRecDepth 100000 in
set_option maxHeartbeats 4000000 in
theorem kX11_let {l : Launch} {D : va_G} {cI cJ : ClassId} {ad : Nat → Nat} {KS : (Nat → Prop) → State → Prop} (hc : gC KS) {p0 : Int32} {p1 : Int32} {σ σ' : MS} {r : Int32} (h : FX11_let p0 p1 σ = some (r, σ')) : gMet l yX11_let qX11_let rmX11_let 0 0 D vwCl [(cI, .int), (cJ, .long)] KS [.ref (ad 0), .int p0, .int p1] (MW cI cJ ad σ) (MW cI cJ ad σ') (some (.int r)) := by
  refine gMet.of (cc := cX11_let) (maxL := 3) (ret := (some .boolean)) (by decide) rfl (Nat.le_of_ble_eq_true rfl) ?_
  intro p e s m args below meth c S hr hlk hnm hK hKS hA hB ls hl
  have hl : lv_has ls 3 [(0, .ref (ad 0)), (1, .int p0), (2, .int p1)] := hl
  replace S : CallFix p m c cX11_let 3 s args (_ :: wsL_law) RX11 := S
  rw [FX11_let] at h
  have P30 : ∀ (x1 : Int32) (x2 : Int32) (y1 : Int32) (σ1 : MS) (H : Heap) (locs : List Loc) (ls : Array Slot), FX11_let_30 x1 x2 y1 σ1 = some (r, σ') → gB D vwCl (va_A (MW cI cJ ad σ) s.heap.size) s.heap (MW cI cJ ad σ1) [] H locs → lv_has ls 3 [(0, .ref (ad 0)), (1, .int x1), (2, .int x2)] → W p l e rmX11_let s m args below meth c H locs 0 0 (MQ below (gQ D vwCl (MW cI cJ ad σ) (MW cI cJ ad σ') (some (.int r)) s.heap.size) args s 0 0 (va_A (MW cI cJ ad σ) s.heap.size)) (F0 m 30 ls [.int y1, .ref (ad 0)]) := by
    intro  x1 x2 y1 σ1 H locs ls h hB hl
    rw [FX11_let_30] at h
    refine mp_thrown S hK hB wf_X11_91 dX11_let_30 (fun H locs hB => ?_)
    refine lv_aload_n S.1 S.2.1 dX11_let_33 rfl (lv_at hl 0 rfl) ?_
    refine mg_thrown (v := y1) S hK hB wf_X11_91 rfl dX11_let_34 ?_
    refine lv_if_ne (tgt := 61) S.1 S.2.1 dX11_let_37 (by decide) (fun c_4 => ?_) (fun c_4 => ?_)
    · replace h := (if_neg c_4).symm.trans h
      refine lv_iconst (v := (0 : Int32)) S.1 S.2.1 dX11_let_61 (by decide) ?_
      cases h
      exact gRetZ S.1 S.2.1 hr hlk hB rfl dX11_let_62
    · replace h := (if_pos c_4).symm.trans h
      refine lv_aload_n S.1 S.2.1 dX11_let_40 rfl (lv_at hl 0 rfl) ?_
      refine lv_aload_n S.1 S.2.1 dX11_let_41 rfl (lv_at hl 0 rfl) ?_
      refine mg_tops S hK hB wf_X11_67 dX11_let_42 ?_
      refine lv_bipush (v := (12 : Int32)) S.1 S.2.1 dX11_let_45 (by decide) ?_
      refine lv_iload_n S.1 S.2.1 dX11_let_47 rfl (lv_at hl 1 rfl) ?_
      refine lv_iadd S.1 S.2.1 dX11_let_48 ?_
      obtain ⟨b_5, h⟩ := gd h
      refine ml_tops (v := (σ1.2.1 25 ((12 : Int32) + x1).toNatClampNeg)) S hK hB b_5 rfl dX11_let_49 ?_
      refine lv_iload_n S.1 S.2.1 dX11_let_50 rfl (lv_at hl 2 rfl) ?_
      obtain ⟨r_6, σ_6, e_6, h⟩ := b2s h
      refine mCallI S hK hc hKS hA (kX11_holds hc e_6) (cwX11_407 S.2.2.2.2 (rm := rmX11_holds) rfl rfl ⟨Nat.le_of_ble_eq_true rfl, Nat.le_of_ble_eq_true rfl⟩) hB rfl hl.1 rfl (lv_room (Nat.le_of_ble_eq_true rfl)) dX11_let_51 ⟨Nat.zero_le _, Nat.zero_le _⟩ (fun H locs hB => ?_)
      refine lv_if_eq (tgt := 61) S.1 S.2.1 dX11_let_54 (by decide) (fun c_7 => ?_) (fun c_7 => ?_)
      · replace h := (if_pos c_7).symm.trans h
        refine lv_iconst (v := (0 : Int32)) S.1 S.2.1 dX11_let_61 (by decide) ?_
        cases h
        exact gRetZ S.1 S.2.1 hr hlk hB rfl dX11_let_62
      · replace h := (if_neg c_7).symm.trans h
        refine lv_iconst (v := (1 : Int32)) S.1 S.2.1 dX11_let_57 (by decide) ?_
        refine lv_goto (tgt := 62) S.1 S.2.1 dX11_let_58 (by decide) ?_
        cases h
        exact gRetZ S.1 S.2.1 hr hlk hB rfl dX11_let_62
  have P29 : ∀ (x1 : Int32) (x2 : Int32) (σ1 : MS) (H : Heap) (locs : List Loc) (ls : Array Slot), FX11_let_29 x1 x2 σ1 = some (r, σ') → gB D vwCl (va_A (MW cI cJ ad σ) s.heap.size) s.heap (MW cI cJ ad σ1) [] H locs → lv_has ls 3 [(0, .ref (ad 0)), (1, .int x1), (2, .int x2)] → W p l e rmX11_let s m args below meth c H locs 0 0 (MQ below (gQ D vwCl (MW cI cJ ad σ) (MW cI cJ ad σ') (some (.int r)) s.heap.size) args s 0 0 (va_A (MW cI cJ ad σ) s.heap.size)) (F0 m 29 ls [.ref (ad 0)]) := by
    intro  x1 x2 σ1 H locs ls h hB hl
    rw [FX11_let_29] at h
    refine lv_iconst (v := (1 : Int32)) S.1 S.2.1 dX11_let_29 (by decide) ?_
    exact P30  _ _ _ _ _ _ _ h hB hl
  refine lv_aload_n S.1 S.2.1 dX11_let_0 rfl (lv_at hl 0 rfl) ?_
  refine lv_iload_n S.1 S.2.1 dX11_let_1 rfl (lv_at hl 1 rfl) ?_
  refine lv_iconst (v := (0 : Int32)) S.1 S.2.1 dX11_let_2 (by decide) ?_
  refine lv_aload_n S.1 S.2.1 dX11_let_3 rfl (lv_at hl 0 rfl) ?_
  refine mg_many S hK hB wf_X11_61 dX11_let_4 ?_
  refine lv_iconst (v := (1 : Int32)) S.1 S.2.1 dX11_let_7 (by decide) ?_
  obtain ⟨b_1, h⟩ := gd h
  refine ml_many (v := (σ.2.1 23 (1 : Int32).toNatClampNeg)) S hK hB b_1 rfl dX11_let_8 ?_
  refine lv_iconst (v := (1 : Int32)) S.1 S.2.1 dX11_let_9 (by decide) ?_
  refine lv_isub S.1 S.2.1 dX11_let_10 ?_
  obtain ⟨r_2, e_2, h⟩ := bnd h
  refine mCallSI S hK hc hKS hA (kX11_isIn hc e_2) (cwX11_101 S.2.2.2.2 (rm := rmX11_isIn) rfl rfl ⟨Nat.le_of_ble_eq_true rfl, Nat.le_of_ble_eq_true rfl⟩) hB rfl hl.1 rfl (lv_room (Nat.le_of_ble_eq_true rfl)) dX11_let_11 ⟨Nat.zero_le _, Nat.zero_le _⟩ (fun H locs hB => ?_)
  refine lv_if_eq (tgt := 29) S.1 S.2.1 dX11_let_14 (by decide) (fun c_3 => ?_) (fun c_3 => ?_)
  · replace h := (if_pos c_3).symm.trans h
    exact P29  _ _ _ _ _ _ h hB hl
  · replace h := (if_neg c_3).symm.trans h
    refine lv_aload_n S.1 S.2.1 dX11_let_17 rfl (lv_at hl 0 rfl) ?_
    refine lv_iload_n S.1 S.2.1 dX11_let_18 rfl (lv_at hl 2 rfl) ?_
    obtain ⟨r_8, σ_8, e_8, h⟩ := b2s h
    refine mCallI S hK hc hKS hA (kX11_isStep hc e_8) (cwX11_462 S.2.2.2.2 (rm := rmX11_isStep) rfl rfl ⟨Nat.le_of_ble_eq_true rfl, Nat.le_of_ble_eq_true rfl⟩) hB rfl hl.1 rfl (lv_room (Nat.le_of_ble_eq_true rfl)) dX11_let_19 ⟨Nat.zero_le _, Nat.zero_le _⟩ (fun H locs hB => ?_)
    refine lv_if_eq (tgt := 29) S.1 S.2.1 dX11_let_22 (by decide) (fun c_9 => ?_) (fun c_9 => ?_)
    · replace h := (if_pos c_9).symm.trans h
      exact P29  _ _ _ _ _ _ h hB hl
    · replace h := (if_neg c_9).symm.trans h
      refine lv_iconst (v := (0 : Int32)) S.1 S.2.1 dX11_let_25 (by decide) ?_
      refine lv_goto (tgt := 30) S.1 S.2.1 dX11_let_26 (by decide) ?_
      exact P30  _ _ _ _ _ _ _ h hB hl
def FX11_watch_22  (x1 : Int32) (x2 : Int32) (y1 : Int32) (σ1 : MS) : Option (Int32 × MS) :=
    if y1 = 0 then
      b2 (FX11_watches x1 x2 (sI σ1 0 y1)) fun r_4 σ_4 =>
      if r_4 = 0 then
        some ((0 : Int32), σ_4)
      else
        some ((1 : Int32), σ_4)
    else
      some ((0 : Int32), (sI σ1 0 y1))
def FX11_watch_21  (x1 : Int32) (x2 : Int32) (σ1 : MS) : Option (Int32 × MS) :=
    FX11_watch_22 x1 x2 (1 : Int32) σ1
def FX11_watch (p0 : Int32) (p1 : Int32) (σ : MS) : Option (Int32 × MS) :=
  b2 (FX11_isWatch p0 σ) fun r_1 σ_1 =>
  if r_1 = 0 then
    FX11_watch_21 p0 p1 σ_1
  else
    b2 (FX11_isStep p1 σ_1) fun r_6 σ_6 =>
    if r_6 = 0 then
      FX11_watch_21 p0 p1 σ_6
    else
      FX11_watch_22 p0 p1 (0 : Int32) σ_6
abbrev rmX11_watch : Room := { frames := 3, cells := 0, slots := 0, locals := 66 }
set_option maxRecDepth 100000 in
set_option maxHeartbeats 4000000 in
theorem kX11_watch {l : Launch} {D : va_G} {cI cJ : ClassId} {ad : Nat → Nat} {KS : (Nat → Prop) → State → Prop} (hc : gC KS) {p0 : Int32} {p1 : Int32} {σ σ' : MS} {r : Int32} (h : FX11_watch p0 p1 σ = some (r, σ')) : gMet l yX11_watch qX11_watch rmX11_watch 0 0 D vwCl [(cI, .int), (cJ, .long)] KS [.ref (ad 0), .int p0, .int p1] (MW cI cJ ad σ) (MW cI cJ ad σ') (some (.int r)) := by
  refine gMet.of (cc := cX11_watch) (maxL := 3) (ret := (some .boolean)) (by decide) rfl (Nat.le_of_ble_eq_true rfl) ?_
  intro p e s m args below meth c S hr hlk hnm hK hKS hA hB ls hl
  have hl : lv_has ls 3 [(0, .ref (ad 0)), (1, .int p0), (2, .int p1)] := hl
  replace S : CallFix p m c cX11_watch 3 s args (_ :: wsL_law) RX11 := S
  rw [FX11_watch] at h
  have P22 : ∀ (x1 : Int32) (x2 : Int32) (y1 : Int32) (σ1 : MS) (H : Heap) (locs : List Loc) (ls : Array Slot), FX11_watch_22 x1 x2 y1 σ1 = some (r, σ') → gB D vwCl (va_A (MW cI cJ ad σ) s.heap.size) s.heap (MW cI cJ ad σ1) [] H locs → lv_has ls 3 [(0, .ref (ad 0)), (1, .int x1), (2, .int x2)] → W p l e rmX11_watch s m args below meth c H locs 0 0 (MQ below (gQ D vwCl (MW cI cJ ad σ) (MW cI cJ ad σ') (some (.int r)) s.heap.size) args s 0 0 (va_A (MW cI cJ ad σ) s.heap.size)) (F0 m 22 ls [.int y1, .ref (ad 0)]) := by
    intro  x1 x2 y1 σ1 H locs ls h hB hl
    rw [FX11_watch_22] at h
    refine mp_thrown S hK hB wf_X11_91 dX11_watch_22 (fun H locs hB => ?_)
    refine lv_aload_n S.1 S.2.1 dX11_watch_25 rfl (lv_at hl 0 rfl) ?_
    refine mg_thrown (v := y1) S hK hB wf_X11_91 rfl dX11_watch_26 ?_
    refine lv_if_ne (tgt := 45) S.1 S.2.1 dX11_watch_29 (by decide) (fun c_3 => ?_) (fun c_3 => ?_)
    · replace h := (if_neg c_3).symm.trans h
      refine lv_iconst (v := (0 : Int32)) S.1 S.2.1 dX11_watch_45 (by decide) ?_
      cases h
      exact gRetZ S.1 S.2.1 hr hlk hB rfl dX11_watch_46
    · replace h := (if_pos c_3).symm.trans h
      refine lv_aload_n S.1 S.2.1 dX11_watch_32 rfl (lv_at hl 0 rfl) ?_
      refine lv_iload_n S.1 S.2.1 dX11_watch_33 rfl (lv_at hl 1 rfl) ?_
      refine lv_iload_n S.1 S.2.1 dX11_watch_34 rfl (lv_at hl 2 rfl) ?_
      obtain ⟨r_4, σ_4, e_4, h⟩ := b2s h
      refine mCallI S hK hc hKS hA (kX11_watches hc e_4) (cwX11_446 S.2.2.2.2 (rm := rmX11_watches) rfl rfl ⟨Nat.le_of_ble_eq_true rfl, Nat.le_of_ble_eq_true rfl⟩) hB rfl hl.1 rfl (lv_room (Nat.le_of_ble_eq_true rfl)) dX11_watch_35 ⟨Nat.zero_le _, Nat.zero_le _⟩ (fun H locs hB => ?_)
      refine lv_if_eq (tgt := 45) S.1 S.2.1 dX11_watch_38 (by decide) (fun c_5 => ?_) (fun c_5 => ?_)
      · replace h := (if_pos c_5).symm.trans h
        refine lv_iconst (v := (0 : Int32)) S.1 S.2.1 dX11_watch_45 (by decide) ?_
        cases h
        exact gRetZ S.1 S.2.1 hr hlk hB rfl dX11_watch_46
      · replace h := (if_neg c_5).symm.trans h
        refine lv_iconst (v := (1 : Int32)) S.1 S.2.1 dX11_watch_41 (by decide) ?_
        refine lv_goto (tgt := 46) S.1 S.2.1 dX11_watch_42 (by decide) ?_
        cases h
        exact gRetZ S.1 S.2.1 hr hlk hB rfl dX11_watch_46
  have P21 : ∀ (x1 : Int32) (x2 : Int32) (σ1 : MS) (H : Heap) (locs : List Loc) (ls : Array Slot), FX11_watch_21 x1 x2 σ1 = some (r, σ') → gB D vwCl (va_A (MW cI cJ ad σ) s.heap.size) s.heap (MW cI cJ ad σ1) [] H locs → lv_has ls 3 [(0, .ref (ad 0)), (1, .int x1), (2, .int x2)] → W p l e rmX11_watch s m args below meth c H locs 0 0 (MQ below (gQ D vwCl (MW cI cJ ad σ) (MW cI cJ ad σ') (some (.int r)) s.heap.size) args s 0 0 (va_A (MW cI cJ ad σ) s.heap.size)) (F0 m 21 ls [.ref (ad 0)]) := by
    intro  x1 x2 σ1 H locs ls h hB hl
    rw [FX11_watch_21] at h
    refine lv_iconst (v := (1 : Int32)) S.1 S.2.1 dX11_watch_21 (by decide) ?_
    exact P22  _ _ _ _ _ _ _ h hB hl
  refine lv_aload_n S.1 S.2.1 dX11_watch_0 rfl (lv_at hl 0 rfl) ?_
  refine lv_aload_n S.1 S.2.1 dX11_watch_1 rfl (lv_at hl 0 rfl) ?_
  refine lv_iload_n S.1 S.2.1 dX11_watch_2 rfl (lv_at hl 1 rfl) ?_
  obtain ⟨r_1, σ_1, e_1, h⟩ := b2s h
  refine mCallI S hK hc hKS hA (kX11_isWatch hc e_1) (cwX11_465 S.2.2.2.2 (rm := rmX11_isWatch) rfl rfl ⟨Nat.le_of_ble_eq_true rfl, Nat.le_of_ble_eq_true rfl⟩) hB rfl hl.1 rfl (lv_room (Nat.le_of_ble_eq_true rfl)) dX11_watch_3 ⟨Nat.zero_le _, Nat.zero_le _⟩ (fun H locs hB => ?_)
  refine lv_if_eq (tgt := 21) S.1 S.2.1 dX11_watch_6 (by decide) (fun c_2 => ?_) (fun c_2 => ?_)
  · replace h := (if_pos c_2).symm.trans h
    exact P21  _ _ _ _ _ _ h hB hl
  · replace h := (if_neg c_2).symm.trans h
    refine lv_aload_n S.1 S.2.1 dX11_watch_9 rfl (lv_at hl 0 rfl) ?_
    refine lv_iload_n S.1 S.2.1 dX11_watch_10 rfl (lv_at hl 2 rfl) ?_
    obtain ⟨r_6, σ_6, e_6, h⟩ := b2s h
    refine mCallI S hK hc hKS hA (kX11_isStep hc e_6) (cwX11_462 S.2.2.2.2 (rm := rmX11_isStep) rfl rfl ⟨Nat.le_of_ble_eq_true rfl, Nat.le_of_ble_eq_true rfl⟩) hB rfl hl.1 rfl (lv_room (Nat.le_of_ble_eq_true rfl)) dX11_watch_11 ⟨Nat.zero_le _, Nat.zero_le _⟩ (fun H locs hB => ?_)
    refine lv_if_eq (tgt := 21) S.1 S.2.1 dX11_watch_14 (by decide) (fun c_7 => ?_) (fun c_7 => ?_)
    · replace h := (if_pos c_7).symm.trans h
      exact P21  _ _ _ _ _ _ h hB hl
    · replace h := (if_neg c_7).symm.trans h
      refine lv_iconst (v := (0 : Int32)) S.1 S.2.1 dX11_watch_17 (by decide) ?_
      refine lv_goto (tgt := 22) S.1 S.2.1 dX11_watch_18 (by decide) ?_
      exact P22  _ _ _ _ _ _ _ h hB hl
def FX11_toldOf_67 (L : Nat) (k14 : Int32 → Int32 → Int32 → Int32 → Int32 → Int32 → Int32 → MS → Option (Int32 × MS)) (x1 : Int32) (x2 : Int32) (x4 : Int32) (x5 : Int32) (x6 : Int32) (x7 : Int32) (x8 : Int32) (y0 : Int32) (y1 : Int32) (σ1 : MS) : Option (Int32 × MS) :=
    if x8 = 0 then
      if x4 = (-1 : Int32) then
        k14 x1 x2 (y0 + y1) x7 x5 x6 (x7 + (1 : Int32)) σ1
      else
        k14 x1 x2 (y0 + y1) x4 x5 x6 (x7 + (1 : Int32)) σ1
    else
      k14 x1 x2 (y0 + y1) x4 x5 x6 (x7 + (1 : Int32)) σ1
def FX11_toldOf_45 (L : Nat) (k14 : Int32 → Int32 → Int32 → Int32 → Int32 → Int32 → Int32 → MS → Option (Int32 × MS)) (x1 : Int32) (x2 : Int32) (x3 : Int32) (x4 : Int32) (x6 : Int32) (x7 : Int32) (x8 : Int32) (y0 : Int32) (σ1 : MS) : Option (Int32 × MS) :=
    if x8 = 0 then
      FX11_toldOf_67 L k14 x1 x2 x4 y0 (if x6 < y0 then y0 else x6) x7 x8 x3 (1 : Int32) σ1
    else
      FX11_toldOf_67 L k14 x1 x2 x4 y0 (if x6 < y0 then y0 else x6) x7 x8 x3 (0 : Int32) σ1
def FX11_toldOf_14 (L : Nat)  : Nat → Int32 → Int32 → Int32 → Int32 → Int32 → Int32 → Int32 → MS → Option (Int32 × MS)
  | 0, _, _, _, _, _, _, _, _ => none
  | n+1, x1, x2, x3, x4, x5, x6, x7, σ1 =>
    if (σ1.1 29) ≤ x7 then
      if x2 = 0 then
        if (x1 < 0 ∨ 12 ≤ x1.toNatClampNeg) then none else
        some ((σ1.2.1 26 x1.toNatClampNeg), σ1)
      else
        if x2 = (1 : Int32) then
          some (x3, σ1)
        else
          if x2 = (2 : Int32) then
            some (x4, σ1)
          else
            if x2 = (3 : Int32) then
              some (x6, σ1)
            else
              some (x5, σ1)
    else
      b2 (FX11_watches x1 x7 σ1) fun r_7 σ_7 =>
      if r_7 = 0 then
        FX11_toldOf_45 L (FX11_toldOf_14 L n) x1 x2 x3 x4 x6 x7 r_7 (x5 + (1 : Int32)) σ_7
      else
        FX11_toldOf_45 L (FX11_toldOf_14 L n) x1 x2 x3 x4 x6 x7 r_7 (0 : Int32) σ_7
def FX11_toldOf (L : Nat) (p0 : Int32) (p1 : Int32) (σ : MS) : Option (Int32 × MS) :=
  FX11_toldOf_14 L L p0 p1 (0 : Int32) (-1 : Int32) (0 : Int32) (0 : Int32) (0 : Int32) σ
abbrev rmX11_toldOf : Room := { frames := 3, cells := 0, slots := 0, locals := 66 }
set_option maxRecDepth 100000 in
set_option maxHeartbeats 4000000 in
theorem kX11_toldOf {l : Launch} {D : va_G} {cI cJ : ClassId} {ad : Nat → Nat} {KS : (Nat → Prop) → State → Prop} {L : Nat} (hc : gC KS) {p0 : Int32} {p1 : Int32} {σ σ' : MS} {r : Int32} (h : FX11_toldOf L p0 p1 σ = some (r, σ')) : gMet l yX11_toldOf qX11_toldOf rmX11_toldOf 0 0 D vwCl [(cI, .int), (cJ, .long)] KS [.ref (ad 0), .int p0, .int p1] (MW cI cJ ad σ) (MW cI cJ ad σ') (some (.int r)) := by
  refine gMet.of (cc := cX11_toldOf) (maxL := 9) (ret := (some .int)) (by decide) rfl (Nat.le_of_ble_eq_true rfl) ?_
  intro p e s m args below meth c S hr hlk hnm hK hKS hA hB ls hl
  have hl : lv_has ls 9 [(0, .ref (ad 0)), (1, .int p0), (2, .int p1)] := hl
  replace S : CallFix p m c cX11_toldOf 9 s args (_ :: wsL_law) RX11 := S
  rw [FX11_toldOf] at h
  have P67 : ∀ (k14 : Int32 → Int32 → Int32 → Int32 → Int32 → Int32 → Int32 → MS → Option (Int32 × MS)) (hk14 : ∀ (x1 : Int32) (x2 : Int32) (x3 : Int32) (x4 : Int32) (x5 : Int32) (x6 : Int32) (x7 : Int32) (σ1 : MS) (H : Heap) (locs : List Loc) (ls : Array Slot), k14 x1 x2 x3 x4 x5 x6 x7 σ1 = some (r, σ') → gB D vwCl (va_A (MW cI cJ ad σ) s.heap.size) s.heap (MW cI cJ ad σ1) [] H locs → lv_has ls 9 [(0, .ref (ad 0)), (1, .int x1), (2, .int x2), (3, .int x3), (4, .int x4), (5, .int x5), (6, .int x6), (7, .int x7)] → W p l e rmX11_toldOf s m args below meth c H locs 0 0 (MQ below (gQ D vwCl (MW cI cJ ad σ) (MW cI cJ ad σ') (some (.int r)) s.heap.size) args s 0 0 (va_A (MW cI cJ ad σ) s.heap.size)) (F0 m 14 ls [])), ∀ (x1 : Int32) (x2 : Int32) (x4 : Int32) (x5 : Int32) (x6 : Int32) (x7 : Int32) (x8 : Int32) (y0 : Int32) (y1 : Int32) (σ1 : MS) (H : Heap) (locs : List Loc) (ls : Array Slot), FX11_toldOf_67 L k14 x1 x2 x4 x5 x6 x7 x8 y0 y1 σ1 = some (r, σ') → gB D vwCl (va_A (MW cI cJ ad σ) s.heap.size) s.heap (MW cI cJ ad σ1) [] H locs → lv_has ls 9 [(0, .ref (ad 0)), (1, .int x1), (2, .int x2), (4, .int x4), (5, .int x5), (6, .int x6), (7, .int x7), (8, .int x8)] → W p l e rmX11_toldOf s m args below meth c H locs 0 0 (MQ below (gQ D vwCl (MW cI cJ ad σ) (MW cI cJ ad σ') (some (.int r)) s.heap.size) args s 0 0 (va_A (MW cI cJ ad σ) s.heap.size)) (F0 m 67 ls [.int y1, .int y0]) := by
    intro k14 hk14 x1 x2 x4 x5 x6 x7 x8 y0 y1 σ1 H locs ls h hB hl
    rw [FX11_toldOf_67] at h
    refine lv_iadd S.1 S.2.1 dX11_toldOf_67 ?_
    refine lv_istore_n (lv' := [(3, .int (y0 + y1)), (0, .ref (ad 0)), (1, .int x1), (2, .int x2), (4, .int x4), (5, .int x5), (6, .int x6), (7, .int x7), (8, .int x8)]) S.1 S.2.1 dX11_toldOf_68 rfl hl (by decide) rfl (fun ls hl => ?_)
    refine lv_iload S.1 S.2.1 dX11_toldOf_69 (lv_at hl 8 rfl) ?_
    refine lv_if_ne (tgt := 84) S.1 S.2.1 dX11_toldOf_71 (by decide) (fun c_10 => ?_) (fun c_10 => ?_)
    · replace h := (if_neg c_10).symm.trans h
      refine lv_iinc (v := (x7 + (1 : Int32))) (lv' := [(7, .int (x7 + (1 : Int32))), (3, .int (y0 + y1)), (0, .ref (ad 0)), (1, .int x1), (2, .int x2), (4, .int x4), (5, .int x5), (6, .int x6), (8, .int x8)]) S.1 S.2.1 dX11_toldOf_84 hl (k := 7) rfl rfl (by decide) rfl (fun ls hl => ?_)
      refine lv_goto (tgt := 14) S.1 S.2.1 dX11_toldOf_87 (by decide) ?_
      exact hk14 _ _ _ _ _ _ _ _ _ _ _ h hB (lv_sub hl [2, 3, 4, 1, 5, 6, 7, 0] rfl)
    · replace h := (if_pos c_10).symm.trans h
      refine lv_iload S.1 S.2.1 dX11_toldOf_74 (lv_at hl 4 rfl) ?_
      refine lv_iconst (v := (-1 : Int32)) S.1 S.2.1 dX11_toldOf_76 (by decide) ?_
      refine lv_icmp_ne (tgt := 84) S.1 S.2.1 dX11_toldOf_77 (by decide) (fun c_11 => ?_) (fun c_11 => ?_)
      · replace h := (if_neg c_11).symm.trans h
        refine lv_iinc (v := (x7 + (1 : Int32))) (lv' := [(7, .int (x7 + (1 : Int32))), (3, .int (y0 + y1)), (0, .ref (ad 0)), (1, .int x1), (2, .int x2), (4, .int x4), (5, .int x5), (6, .int x6), (8, .int x8)]) S.1 S.2.1 dX11_toldOf_84 hl (k := 7) rfl rfl (by decide) rfl (fun ls hl => ?_)
        refine lv_goto (tgt := 14) S.1 S.2.1 dX11_toldOf_87 (by decide) ?_
        exact hk14 _ _ _ _ _ _ _ _ _ _ _ h hB (lv_sub hl [2, 3, 4, 1, 5, 6, 7, 0] rfl)
      · replace h := (if_pos c_11).symm.trans h
        refine lv_iload S.1 S.2.1 dX11_toldOf_80 (lv_at hl 7 rfl) ?_
        refine lv_istore (lv' := [(4, .int x7), (3, .int (y0 + y1)), (0, .ref (ad 0)), (1, .int x1), (2, .int x2), (5, .int x5), (6, .int x6), (7, .int x7), (8, .int x8)]) S.1 S.2.1 dX11_toldOf_82 hl (by decide) rfl (fun ls hl => ?_)
        refine lv_iinc (v := (x7 + (1 : Int32))) (lv' := [(7, .int (x7 + (1 : Int32))), (4, .int x7), (3, .int (y0 + y1)), (0, .ref (ad 0)), (1, .int x1), (2, .int x2), (5, .int x5), (6, .int x6), (8, .int x8)]) S.1 S.2.1 dX11_toldOf_84 hl (k := 7) rfl rfl (by decide) rfl (fun ls hl => ?_)
        refine lv_goto (tgt := 14) S.1 S.2.1 dX11_toldOf_87 (by decide) ?_
        exact hk14 _ _ _ _ _ _ _ _ _ _ _ h hB (lv_sub hl [3, 4, 5, 2, 1, 6, 7, 0] rfl)
  have P45 : ∀ (k14 : Int32 → Int32 → Int32 → Int32 → Int32 → Int32 → Int32 → MS → Option (Int32 × MS)) (hk14 : ∀ (x1 : Int32) (x2 : Int32) (x3 : Int32) (x4 : Int32) (x5 : Int32) (x6 : Int32) (x7 : Int32) (σ1 : MS) (H : Heap) (locs : List Loc) (ls : Array Slot), k14 x1 x2 x3 x4 x5 x6 x7 σ1 = some (r, σ') → gB D vwCl (va_A (MW cI cJ ad σ) s.heap.size) s.heap (MW cI cJ ad σ1) [] H locs → lv_has ls 9 [(0, .ref (ad 0)), (1, .int x1), (2, .int x2), (3, .int x3), (4, .int x4), (5, .int x5), (6, .int x6), (7, .int x7)] → W p l e rmX11_toldOf s m args below meth c H locs 0 0 (MQ below (gQ D vwCl (MW cI cJ ad σ) (MW cI cJ ad σ') (some (.int r)) s.heap.size) args s 0 0 (va_A (MW cI cJ ad σ) s.heap.size)) (F0 m 14 ls [])), ∀ (x1 : Int32) (x2 : Int32) (x3 : Int32) (x4 : Int32) (x6 : Int32) (x7 : Int32) (x8 : Int32) (y0 : Int32) (σ1 : MS) (H : Heap) (locs : List Loc) (ls : Array Slot), FX11_toldOf_45 L k14 x1 x2 x3 x4 x6 x7 x8 y0 σ1 = some (r, σ') → gB D vwCl (va_A (MW cI cJ ad σ) s.heap.size) s.heap (MW cI cJ ad σ1) [] H locs → lv_has ls 9 [(0, .ref (ad 0)), (1, .int x1), (2, .int x2), (3, .int x3), (4, .int x4), (6, .int x6), (7, .int x7), (8, .int x8)] → W p l e rmX11_toldOf s m args below meth c H locs 0 0 (MQ below (gQ D vwCl (MW cI cJ ad σ) (MW cI cJ ad σ') (some (.int r)) s.heap.size) args s 0 0 (va_A (MW cI cJ ad σ) s.heap.size)) (F0 m 45 ls [.int y0]) := by
    intro k14 hk14 x1 x2 x3 x4 x6 x7 x8 y0 σ1 H locs ls h hB hl
    rw [FX11_toldOf_45] at h
    refine lv_istore (lv' := [(5, .int y0), (0, .ref (ad 0)), (1, .int x1), (2, .int x2), (3, .int x3), (4, .int x4), (6, .int x6), (7, .int x7), (8, .int x8)]) S.1 S.2.1 dX11_toldOf_45 hl (by decide) rfl (fun ls hl => ?_)
    refine lv_iload S.1 S.2.1 dX11_toldOf_47 (lv_at hl 6 rfl) ?_
    refine lv_iload S.1 S.2.1 dX11_toldOf_49 (lv_at hl 0 rfl) ?_
    refine va_mmax S.1 S.2.1 (S.2.2.1.trans hl.1.symm) S.2.2.2.1 (S.2.2.2.2 _ (List.mem_cons_of_mem _ wm_X11_125)) (S.2.2.2.2 _ (List.mem_cons_of_mem _ wo_static_Math_max_name)) (S.2.2.2.2 _ (List.mem_cons_of_mem _ wo_init_Math)) (S.2.2.2.2 _ (List.mem_cons_of_mem _ wo_code_Math_max_name)) (Nat.le_of_ble_eq_true rfl) (Nat.le_of_ble_eq_true rfl) (Nat.zero_le _) (Nat.zero_le _) dX11_toldOf_51 ?_
    refine lv_istore (lv' := [(6, .int (if x6 < y0 then y0 else x6)), (5, .int y0), (0, .ref (ad 0)), (1, .int x1), (2, .int x2), (3, .int x3), (4, .int x4), (7, .int x7), (8, .int x8)]) S.1 S.2.1 dX11_toldOf_54 hl (by decide) rfl (fun ls hl => ?_)
    refine lv_iload_n S.1 S.2.1 dX11_toldOf_56 rfl (lv_at hl 5 rfl) ?_
    refine lv_iload S.1 S.2.1 dX11_toldOf_57 (lv_at hl 8 rfl) ?_
    refine lv_if_eq (tgt := 66) S.1 S.2.1 dX11_toldOf_59 (by decide) (fun c_9 => ?_) (fun c_9 => ?_)
    · replace h := (if_pos c_9).symm.trans h
      refine lv_iconst (v := (1 : Int32)) S.1 S.2.1 dX11_toldOf_66 (by decide) ?_
      exact P67 k14 hk14 _ _ _ _ _ _ _ _ _ _ _ _ _ h hB (lv_sub hl [2, 3, 4, 6, 1, 0, 7, 8] rfl)
    · replace h := (if_neg c_9).symm.trans h
      refine lv_iconst (v := (0 : Int32)) S.1 S.2.1 dX11_toldOf_62 (by decide) ?_
      refine lv_goto (tgt := 67) S.1 S.2.1 dX11_toldOf_63 (by decide) ?_
      exact P67 k14 hk14 _ _ _ _ _ _ _ _ _ _ _ _ _ h hB (lv_sub hl [2, 3, 4, 6, 1, 0, 7, 8] rfl)
  have P14 : ∀  (n : Nat), ∀ (x1 : Int32) (x2 : Int32) (x3 : Int32) (x4 : Int32) (x5 : Int32) (x6 : Int32) (x7 : Int32) (σ1 : MS) (H : Heap) (locs : List Loc) (ls : Array Slot), FX11_toldOf_14 L n x1 x2 x3 x4 x5 x6 x7 σ1 = some (r, σ') → gB D vwCl (va_A (MW cI cJ ad σ) s.heap.size) s.heap (MW cI cJ ad σ1) [] H locs → lv_has ls 9 [(0, .ref (ad 0)), (1, .int x1), (2, .int x2), (3, .int x3), (4, .int x4), (5, .int x5), (6, .int x6), (7, .int x7)] → W p l e rmX11_toldOf s m args below meth c H locs 0 0 (MQ below (gQ D vwCl (MW cI cJ ad σ) (MW cI cJ ad σ') (some (.int r)) s.heap.size) args s 0 0 (va_A (MW cI cJ ad σ) s.heap.size)) (F0 m 14 ls []) := by
    intro n
    induction n with
    | zero => intro x1 x2 x3 x4 x5 x6 x7 σ1 H locs ls h; simp only [FX11_toldOf_14] at h; cases h
    | succ n ih =>
      intro x1 x2 x3 x4 x5 x6 x7 σ1 H locs ls h hB hl
      rw [FX11_toldOf_14] at h
      refine lv_iload S.1 S.2.1 dX11_toldOf_14 (lv_at hl 7 rfl) ?_
      refine lv_aload_n S.1 S.2.1 dX11_toldOf_16 rfl (lv_at hl 0 rfl) ?_
      refine mg_steps S hK hB wf_X11_369 rfl dX11_toldOf_17 ?_
      refine lv_icmp_ge (tgt := 90) S.1 S.2.1 dX11_toldOf_20 (by decide) (fun c_1 => ?_) (fun c_1 => ?_)
      · replace h := (if_pos c_1).symm.trans h
        refine lv_iload_n S.1 S.2.1 dX11_toldOf_90 rfl (lv_at hl 2 rfl) ?_
        refine lv_if_ne (tgt := 103) S.1 S.2.1 dX11_toldOf_91 (by decide) (fun c_2 => ?_) (fun c_2 => ?_)
        · replace h := (if_neg c_2).symm.trans h
          refine lv_iload_n S.1 S.2.1 dX11_toldOf_103 rfl (lv_at hl 2 rfl) ?_
          refine lv_iconst (v := (1 : Int32)) S.1 S.2.1 dX11_toldOf_104 (by decide) ?_
          refine lv_icmp_ne (tgt := 112) S.1 S.2.1 dX11_toldOf_105 (by decide) (fun c_3 => ?_) (fun c_3 => ?_)
          · replace h := (if_neg c_3).symm.trans h
            refine lv_iload_n S.1 S.2.1 dX11_toldOf_112 rfl (lv_at hl 2 rfl) ?_
            refine lv_iconst (v := (2 : Int32)) S.1 S.2.1 dX11_toldOf_113 (by decide) ?_
            refine lv_icmp_ne (tgt := 122) S.1 S.2.1 dX11_toldOf_114 (by decide) (fun c_4 => ?_) (fun c_4 => ?_)
            · replace h := (if_neg c_4).symm.trans h
              refine lv_iload_n S.1 S.2.1 dX11_toldOf_122 rfl (lv_at hl 2 rfl) ?_
              refine lv_iconst (v := (3 : Int32)) S.1 S.2.1 dX11_toldOf_123 (by decide) ?_
              refine lv_icmp_ne (tgt := 132) S.1 S.2.1 dX11_toldOf_124 (by decide) (fun c_5 => ?_) (fun c_5 => ?_)
              · replace h := (if_neg c_5).symm.trans h
                refine lv_iload S.1 S.2.1 dX11_toldOf_132 (lv_at hl 5 rfl) ?_
                cases h
                exact gRetI S.1 S.2.1 hr hlk hB dX11_toldOf_134
              · replace h := (if_pos c_5).symm.trans h
                refine lv_iload S.1 S.2.1 dX11_toldOf_127 (lv_at hl 6 rfl) ?_
                refine lv_goto (tgt := 134) S.1 S.2.1 dX11_toldOf_129 (by decide) ?_
                cases h
                exact gRetI S.1 S.2.1 hr hlk hB dX11_toldOf_134
            · replace h := (if_pos c_4).symm.trans h
              refine lv_iload S.1 S.2.1 dX11_toldOf_117 (lv_at hl 4 rfl) ?_
              refine lv_goto (tgt := 134) S.1 S.2.1 dX11_toldOf_119 (by decide) ?_
              cases h
              exact gRetI S.1 S.2.1 hr hlk hB dX11_toldOf_134
          · replace h := (if_pos c_3).symm.trans h
            refine lv_iload_n S.1 S.2.1 dX11_toldOf_108 rfl (lv_at hl 3 rfl) ?_
            refine lv_goto (tgt := 134) S.1 S.2.1 dX11_toldOf_109 (by decide) ?_
            cases h
            exact gRetI S.1 S.2.1 hr hlk hB dX11_toldOf_134
        · replace h := (if_pos c_2).symm.trans h
          refine lv_aload_n S.1 S.2.1 dX11_toldOf_94 rfl (lv_at hl 0 rfl) ?_
          refine mg_levels S hK hB wf_X11_70 dX11_toldOf_95 ?_
          refine lv_iload_n S.1 S.2.1 dX11_toldOf_98 rfl (lv_at hl 1 rfl) ?_
          obtain ⟨b_6, h⟩ := gd h
          refine ml_levels (v := (σ1.2.1 26 x1.toNatClampNeg)) S hK hB b_6 rfl dX11_toldOf_99 ?_
          refine lv_goto (tgt := 134) S.1 S.2.1 dX11_toldOf_100 (by decide) ?_
          cases h
          exact gRetI S.1 S.2.1 hr hlk hB dX11_toldOf_134
      · replace h := (if_neg c_1).symm.trans h
        refine lv_aload_n S.1 S.2.1 dX11_toldOf_23 rfl (lv_at hl 0 rfl) ?_
        refine lv_iload_n S.1 S.2.1 dX11_toldOf_24 rfl (lv_at hl 1 rfl) ?_
        refine lv_iload S.1 S.2.1 dX11_toldOf_25 (lv_at hl 7 rfl) ?_
        obtain ⟨r_7, σ_7, e_7, h⟩ := b2s h
        refine mCallI S hK hc hKS hA (kX11_watches hc e_7) (cwX11_446 S.2.2.2.2 (rm := rmX11_watches) rfl rfl ⟨Nat.le_of_ble_eq_true rfl, Nat.le_of_ble_eq_true rfl⟩) hB rfl hl.1 rfl (lv_room (Nat.le_of_ble_eq_true rfl)) dX11_toldOf_27 ⟨Nat.zero_le _, Nat.zero_le _⟩ (fun H locs hB => ?_)
        refine lv_istore (lv' := [(8, .int r_7), (0, .ref (ad 0)), (1, .int x1), (2, .int x2), (3, .int x3), (4, .int x4), (5, .int x5), (6, .int x6), (7, .int x7)]) S.1 S.2.1 dX11_toldOf_30 hl (by decide) rfl (fun ls hl => ?_)
        refine lv_iload S.1 S.2.1 dX11_toldOf_32 (lv_at hl 0 rfl) ?_
        refine lv_if_eq (tgt := 41) S.1 S.2.1 dX11_toldOf_34 (by decide) (fun c_8 => ?_) (fun c_8 => ?_)
        · replace h := (if_pos c_8).symm.trans h
          refine lv_iload S.1 S.2.1 dX11_toldOf_41 (lv_at hl 6 rfl) ?_
          refine lv_iconst (v := (1 : Int32)) S.1 S.2.1 dX11_toldOf_43 (by decide) ?_
          refine lv_iadd S.1 S.2.1 dX11_toldOf_44 ?_
          exact P45 (FX11_toldOf_14 L n) ih _ _ _ _ _ _ _ _ _ _ _ _ h hB (lv_sub hl [1, 2, 3, 4, 5, 7, 8, 0] rfl)
        · replace h := (if_neg c_8).symm.trans h
          refine lv_iconst (v := (0 : Int32)) S.1 S.2.1 dX11_toldOf_37 (by decide) ?_
          refine lv_goto (tgt := 45) S.1 S.2.1 dX11_toldOf_38 (by decide) ?_
          exact P45 (FX11_toldOf_14 L n) ih _ _ _ _ _ _ _ _ _ _ _ _ h hB (lv_sub hl [1, 2, 3, 4, 5, 7, 8, 0] rfl)
  refine lv_iconst (v := (0 : Int32)) S.1 S.2.1 dX11_toldOf_0 (by decide) ?_
  refine lv_istore_n (lv' := [(3, .int (0 : Int32)), (0, .ref (ad 0)), (1, .int p0), (2, .int p1)]) S.1 S.2.1 dX11_toldOf_1 rfl hl (by decide) rfl (fun ls hl => ?_)
  refine lv_iconst (v := (-1 : Int32)) S.1 S.2.1 dX11_toldOf_2 (by decide) ?_
  refine lv_istore (lv' := [(4, .int (-1 : Int32)), (3, .int (0 : Int32)), (0, .ref (ad 0)), (1, .int p0), (2, .int p1)]) S.1 S.2.1 dX11_toldOf_3 hl (by decide) rfl (fun ls hl => ?_)
  refine lv_iconst (v := (0 : Int32)) S.1 S.2.1 dX11_toldOf_5 (by decide) ?_
  refine lv_istore (lv' := [(5, .int (0 : Int32)), (4, .int (-1 : Int32)), (3, .int (0 : Int32)), (0, .ref (ad 0)), (1, .int p0), (2, .int p1)]) S.1 S.2.1 dX11_toldOf_6 hl (by decide) rfl (fun ls hl => ?_)
  refine lv_iconst (v := (0 : Int32)) S.1 S.2.1 dX11_toldOf_8 (by decide) ?_
  refine lv_istore (lv' := [(6, .int (0 : Int32)), (5, .int (0 : Int32)), (4, .int (-1 : Int32)), (3, .int (0 : Int32)), (0, .ref (ad 0)), (1, .int p0), (2, .int p1)]) S.1 S.2.1 dX11_toldOf_9 hl (by decide) rfl (fun ls hl => ?_)
  refine lv_iconst (v := (0 : Int32)) S.1 S.2.1 dX11_toldOf_11 (by decide) ?_
  refine lv_istore (lv' := [(7, .int (0 : Int32)), (6, .int (0 : Int32)), (5, .int (0 : Int32)), (4, .int (-1 : Int32)), (3, .int (0 : Int32)), (0, .ref (ad 0)), (1, .int p0), (2, .int p1)]) S.1 S.2.1 dX11_toldOf_12 hl (by decide) rfl (fun ls hl => ?_)
  exact P14  L _ _ _ _ _ _ _ _ _ _ _ h hB (lv_sub hl [5, 6, 7, 4, 3, 2, 1, 0] rfl)
def FX11_told_31 (L : Nat)   (σ1 : MS) : Option (Int32 × MS) :=
    b2 (FX11_no (1 : Int32) σ1) fun r_3 σ_3 =>
    some (r_3, σ_3)
def FX11_told (L : Nat) (p0 : Int32) (p1 : Int32) (σ : MS) : Option (Int32 × MS) :=
  b2 (FX11_isWatch p0 (sI σ 0 (0 : Int32))) fun r_1 σ_1 =>
  if r_1 = 0 then
    FX11_told_31 L σ_1
  else
    (FX11_isIn p1 (0 : Int32) (4 : Int32)).bind fun r_4 =>
    if r_4 = 0 then
      FX11_told_31 L σ_1
    else
      b2 (FX11_toldOf L p0 p1 σ_1) fun r_6 σ_6 =>
      some (r_6, σ_6)
abbrev rmX11_told : Room := { frames := 4, cells := 0, slots := 0, locals := 94 }
set_option maxRecDepth 100000 in
set_option maxHeartbeats 4000000 in
theorem kX11_told {l : Launch} {D : va_G} {cI cJ : ClassId} {ad : Nat → Nat} {KS : (Nat → Prop) → State → Prop} {L : Nat} (hc : gC KS) {p0 : Int32} {p1 : Int32} {σ σ' : MS} {r : Int32} (h : FX11_told L p0 p1 σ = some (r, σ')) : gMet l yX11_told qX11_told rmX11_told 0 0 D vwCl [(cI, .int), (cJ, .long)] KS [.ref (ad 0), .int p0, .int p1] (MW cI cJ ad σ) (MW cI cJ ad σ') (some (.int r)) := by
  refine gMet.of (cc := cX11_told) (maxL := 3) (ret := (some .int)) (by decide) rfl (Nat.le_of_ble_eq_true rfl) ?_
  intro p e s m args below meth c S hr hlk hnm hK hKS hA hB ls hl
  have hl : lv_has ls 3 [(0, .ref (ad 0)), (1, .int p0), (2, .int p1)] := hl
  replace S : CallFix p m c cX11_told 3 s args (_ :: wsL_law) RX11 := S
  rw [FX11_told] at h
  have P31 : ∀  (σ1 : MS) (H : Heap) (locs : List Loc) (ls : Array Slot), FX11_told_31 L  σ1 = some (r, σ') → gB D vwCl (va_A (MW cI cJ ad σ) s.heap.size) s.heap (MW cI cJ ad σ1) [] H locs → lv_has ls 3 [(0, .ref (ad 0))] → W p l e rmX11_told s m args below meth c H locs 0 0 (MQ below (gQ D vwCl (MW cI cJ ad σ) (MW cI cJ ad σ') (some (.int r)) s.heap.size) args s 0 0 (va_A (MW cI cJ ad σ) s.heap.size)) (F0 m 31 ls []) := by
    intro   σ1 H locs ls h hB hl
    rw [FX11_told_31] at h
    refine lv_aload_n S.1 S.2.1 dX11_told_31 rfl (lv_at hl 0 rfl) ?_
    refine lv_iconst (v := (1 : Int32)) S.1 S.2.1 dX11_told_32 (by decide) ?_
    obtain ⟨r_3, σ_3, e_3, h⟩ := b2s h
    refine mCallI S hK hc hKS hA (kX11_no hc e_3) (cwX11_97 S.2.2.2.2 (rm := rmX11_no) rfl rfl ⟨Nat.le_of_ble_eq_true rfl, Nat.le_of_ble_eq_true rfl⟩) hB rfl hl.1 rfl (lv_room (Nat.le_of_ble_eq_true rfl)) dX11_told_33 ⟨Nat.zero_le _, Nat.zero_le _⟩ (fun H locs hB => ?_)
    cases h
    exact gRetI S.1 S.2.1 hr hlk hB dX11_told_36
  refine lv_aload_n S.1 S.2.1 dX11_told_0 rfl (lv_at hl 0 rfl) ?_
  refine lv_iconst (v := (0 : Int32)) S.1 S.2.1 dX11_told_1 (by decide) ?_
  refine mp_thrown S hK hB wf_X11_91 dX11_told_2 (fun H locs hB => ?_)
  refine lv_aload_n S.1 S.2.1 dX11_told_5 rfl (lv_at hl 0 rfl) ?_
  refine lv_iload_n S.1 S.2.1 dX11_told_6 rfl (lv_at hl 1 rfl) ?_
  obtain ⟨r_1, σ_1, e_1, h⟩ := b2s h
  refine mCallI S hK hc hKS hA (kX11_isWatch hc e_1) (cwX11_465 S.2.2.2.2 (rm := rmX11_isWatch) rfl rfl ⟨Nat.le_of_ble_eq_true rfl, Nat.le_of_ble_eq_true rfl⟩) hB rfl hl.1 rfl (lv_room (Nat.le_of_ble_eq_true rfl)) dX11_told_7 ⟨Nat.zero_le _, Nat.zero_le _⟩ (fun H locs hB => ?_)
  refine lv_if_eq (tgt := 31) S.1 S.2.1 dX11_told_10 (by decide) (fun c_2 => ?_) (fun c_2 => ?_)
  · replace h := (if_pos c_2).symm.trans h
    exact P31  _ _ _ _ h hB (lv_sub hl [0] rfl)
  · replace h := (if_neg c_2).symm.trans h
    refine lv_iload_n S.1 S.2.1 dX11_told_13 rfl (lv_at hl 2 rfl) ?_
    refine lv_iconst (v := (0 : Int32)) S.1 S.2.1 dX11_told_14 (by decide) ?_
    refine lv_iconst (v := (4 : Int32)) S.1 S.2.1 dX11_told_15 (by decide) ?_
    obtain ⟨r_4, e_4, h⟩ := bnd h
    refine mCallSI S hK hc hKS hA (kX11_isIn hc e_4) (cwX11_101 S.2.2.2.2 (rm := rmX11_isIn) rfl rfl ⟨Nat.le_of_ble_eq_true rfl, Nat.le_of_ble_eq_true rfl⟩) hB rfl hl.1 rfl (lv_room (Nat.le_of_ble_eq_true rfl)) dX11_told_16 ⟨Nat.zero_le _, Nat.zero_le _⟩ (fun H locs hB => ?_)
    refine lv_if_eq (tgt := 31) S.1 S.2.1 dX11_told_19 (by decide) (fun c_5 => ?_) (fun c_5 => ?_)
    · replace h := (if_pos c_5).symm.trans h
      exact P31  _ _ _ _ h hB (lv_sub hl [0] rfl)
    · replace h := (if_neg c_5).symm.trans h
      refine lv_aload_n S.1 S.2.1 dX11_told_22 rfl (lv_at hl 0 rfl) ?_
      refine lv_iload_n S.1 S.2.1 dX11_told_23 rfl (lv_at hl 1 rfl) ?_
      refine lv_iload_n S.1 S.2.1 dX11_told_24 rfl (lv_at hl 2 rfl) ?_
      obtain ⟨r_6, σ_6, e_6, h⟩ := b2s h
      refine mCallI S hK hc hKS hA (kX11_toldOf hc e_6) (cwX11_468 S.2.2.2.2 (rm := rmX11_toldOf) rfl rfl ⟨Nat.le_of_ble_eq_true rfl, Nat.le_of_ble_eq_true rfl⟩) hB rfl hl.1 rfl (lv_room (Nat.le_of_ble_eq_true rfl)) dX11_told_25 ⟨Nat.zero_le _, Nat.zero_le _⟩ (fun H locs hB => ?_)
      refine lv_goto (tgt := 36) S.1 S.2.1 dX11_told_28 (by decide) ?_
      cases h
      exact gRetI S.1 S.2.1 hr hlk hB dX11_told_36
def FX11_alarms_25 (L : Nat)  : Nat → Int32 → Int32 → Int32 → MS → Option (Int32 × MS)
  | 0, _, _, _, _ => none
  | n+1, x1, x2, x3, σ1 =>
    if ((3 : Int32) < 0 ∨ 4 ≤ (3 : Int32).toNatClampNeg) then none else
    if (σ1.2.1 23 (3 : Int32).toNatClampNeg) ≤ x3 then
      some (x2, σ1)
    else
      if (σ1.1 29) ≤ 0 then
        (FX11_alarms_25 L n) x1 (x2 + (0 : Int32)) (x3 + (1 : Int32)) σ1
      else
        if (x3 < 0 ∨ 12 ≤ x3.toNatClampNeg) then none else
        if (σ1.2.1 26 x3.toNatClampNeg) < x1 then
          (FX11_alarms_25 L n) x1 (x2 + (0 : Int32)) (x3 + (1 : Int32)) σ1
        else
          b2 (FX11_watches x3 ((σ1.1 29) - (1 : Int32)) σ1) fun r_8 σ_8 =>
          if r_8 = 0 then
            (FX11_alarms_25 L n) x1 (x2 + (1 : Int32)) (x3 + (1 : Int32)) σ_8
          else
            (FX11_alarms_25 L n) x1 (x2 + (0 : Int32)) (x3 + (1 : Int32)) σ_8
def FX11_alarms (L : Nat) (p0 : Int32) (σ : MS) : Option (Int32 × MS) :=
  (FX11_isIn p0 (0 : Int32) (9 : Int32)).bind fun r_1 =>
  if r_1 = 0 then
    b2 (FX11_no (1 : Int32) (sI σ 0 (0 : Int32))) fun r_10 σ_10 =>
    some (r_10, σ_10)
  else
    FX11_alarms_25 L L p0 (0 : Int32) (0 : Int32) (sI σ 0 (0 : Int32))
abbrev rmX11_alarms : Room := { frames := 3, cells := 0, slots := 0, locals := 66 }
set_option maxRecDepth 100000 in
set_option maxHeartbeats 4000000 in
theorem kX11_alarms {l : Launch} {D : va_G} {cI cJ : ClassId} {ad : Nat → Nat} {KS : (Nat → Prop) → State → Prop} {L : Nat} (hc : gC KS) {p0 : Int32} {σ σ' : MS} {r : Int32} (h : FX11_alarms L p0 σ = some (r, σ')) : gMet l yX11_alarms qX11_alarms rmX11_alarms 0 0 D vwCl [(cI, .int), (cJ, .long)] KS [.ref (ad 0), .int p0] (MW cI cJ ad σ) (MW cI cJ ad σ') (some (.int r)) := by
  refine gMet.of (cc := cX11_alarms) (maxL := 4) (ret := (some .int)) (by decide) rfl (Nat.le_of_ble_eq_true rfl) ?_
  intro p e s m args below meth c S hr hlk hnm hK hKS hA hB ls hl
  have hl : lv_has ls 4 [(0, .ref (ad 0)), (1, .int p0)] := hl
  replace S : CallFix p m c cX11_alarms 4 s args (_ :: wsL_law) RX11 := S
  rw [FX11_alarms] at h
  have P25 : ∀  (n : Nat), ∀ (x1 : Int32) (x2 : Int32) (x3 : Int32) (σ1 : MS) (H : Heap) (locs : List Loc) (ls : Array Slot), FX11_alarms_25 L n x1 x2 x3 σ1 = some (r, σ') → gB D vwCl (va_A (MW cI cJ ad σ) s.heap.size) s.heap (MW cI cJ ad σ1) [] H locs → lv_has ls 4 [(0, .ref (ad 0)), (1, .int x1), (2, .int x2), (3, .int x3)] → W p l e rmX11_alarms s m args below meth c H locs 0 0 (MQ below (gQ D vwCl (MW cI cJ ad σ) (MW cI cJ ad σ') (some (.int r)) s.heap.size) args s 0 0 (va_A (MW cI cJ ad σ) s.heap.size)) (F0 m 25 ls []) := by
    intro n
    induction n with
    | zero => intro x1 x2 x3 σ1 H locs ls h; simp only [FX11_alarms_25] at h; cases h
    | succ n ih =>
      intro x1 x2 x3 σ1 H locs ls h hB hl
      rw [FX11_alarms_25] at h
      refine lv_iload_n S.1 S.2.1 dX11_alarms_25 rfl (lv_at hl 3 rfl) ?_
      refine lv_aload_n S.1 S.2.1 dX11_alarms_26 rfl (lv_at hl 0 rfl) ?_
      refine mg_many S hK hB wf_X11_61 dX11_alarms_27 ?_
      refine lv_iconst (v := (3 : Int32)) S.1 S.2.1 dX11_alarms_30 (by decide) ?_
      obtain ⟨b_3, h⟩ := gd h
      refine ml_many (v := (σ1.2.1 23 (3 : Int32).toNatClampNeg)) S hK hB b_3 rfl dX11_alarms_31 ?_
      refine lv_icmp_ge (tgt := 80) S.1 S.2.1 dX11_alarms_32 (by decide) (fun c_4 => ?_) (fun c_4 => ?_)
      · replace h := (if_pos c_4).symm.trans h
        refine lv_iload_n S.1 S.2.1 dX11_alarms_80 rfl (lv_at hl 2 rfl) ?_
        cases h
        exact gRetI S.1 S.2.1 hr hlk hB dX11_alarms_81
      · replace h := (if_neg c_4).symm.trans h
        refine lv_iload_n S.1 S.2.1 dX11_alarms_35 rfl (lv_at hl 2 rfl) ?_
        refine lv_aload_n S.1 S.2.1 dX11_alarms_36 rfl (lv_at hl 0 rfl) ?_
        refine mg_steps S hK hB wf_X11_369 rfl dX11_alarms_37 ?_
        refine lv_if_le (tgt := 71) S.1 S.2.1 dX11_alarms_40 (by decide) (fun c_5 => ?_) (fun c_5 => ?_)
        · replace h := (if_pos c_5).symm.trans h
          refine lv_iconst (v := (0 : Int32)) S.1 S.2.1 dX11_alarms_71 (by decide) ?_
          refine lv_iadd S.1 S.2.1 dX11_alarms_72 ?_
          refine lv_istore_n (lv' := [(2, .int (x2 + (0 : Int32))), (0, .ref (ad 0)), (1, .int x1), (3, .int x3)]) S.1 S.2.1 dX11_alarms_73 rfl hl (by decide) rfl (fun ls hl => ?_)
          refine lv_iinc (v := (x3 + (1 : Int32))) (lv' := [(3, .int (x3 + (1 : Int32))), (2, .int (x2 + (0 : Int32))), (0, .ref (ad 0)), (1, .int x1)]) S.1 S.2.1 dX11_alarms_74 hl (k := 3) rfl rfl (by decide) rfl (fun ls hl => ?_)
          refine lv_goto (tgt := 25) S.1 S.2.1 dX11_alarms_77 (by decide) ?_
          exact ih _ _ _ _ _ _ _ h hB (lv_sub hl [2, 3, 1, 0] rfl)
        · replace h := (if_neg c_5).symm.trans h
          refine lv_aload_n S.1 S.2.1 dX11_alarms_43 rfl (lv_at hl 0 rfl) ?_
          refine mg_levels S hK hB wf_X11_70 dX11_alarms_44 ?_
          refine lv_iload_n S.1 S.2.1 dX11_alarms_47 rfl (lv_at hl 3 rfl) ?_
          obtain ⟨b_6, h⟩ := gd h
          refine ml_levels (v := (σ1.2.1 26 x3.toNatClampNeg)) S hK hB b_6 rfl dX11_alarms_48 ?_
          refine lv_iload_n S.1 S.2.1 dX11_alarms_49 rfl (lv_at hl 1 rfl) ?_
          refine lv_icmp_lt (tgt := 71) S.1 S.2.1 dX11_alarms_50 (by decide) (fun c_7 => ?_) (fun c_7 => ?_)
          · replace h := (if_pos c_7).symm.trans h
            refine lv_iconst (v := (0 : Int32)) S.1 S.2.1 dX11_alarms_71 (by decide) ?_
            refine lv_iadd S.1 S.2.1 dX11_alarms_72 ?_
            refine lv_istore_n (lv' := [(2, .int (x2 + (0 : Int32))), (0, .ref (ad 0)), (1, .int x1), (3, .int x3)]) S.1 S.2.1 dX11_alarms_73 rfl hl (by decide) rfl (fun ls hl => ?_)
            refine lv_iinc (v := (x3 + (1 : Int32))) (lv' := [(3, .int (x3 + (1 : Int32))), (2, .int (x2 + (0 : Int32))), (0, .ref (ad 0)), (1, .int x1)]) S.1 S.2.1 dX11_alarms_74 hl (k := 3) rfl rfl (by decide) rfl (fun ls hl => ?_)
            refine lv_goto (tgt := 25) S.1 S.2.1 dX11_alarms_77 (by decide) ?_
            exact ih _ _ _ _ _ _ _ h hB (lv_sub hl [2, 3, 1, 0] rfl)
          · replace h := (if_neg c_7).symm.trans h
            refine lv_aload_n S.1 S.2.1 dX11_alarms_53 rfl (lv_at hl 0 rfl) ?_
            refine lv_iload_n S.1 S.2.1 dX11_alarms_54 rfl (lv_at hl 3 rfl) ?_
            refine lv_aload_n S.1 S.2.1 dX11_alarms_55 rfl (lv_at hl 0 rfl) ?_
            refine mg_steps S hK hB wf_X11_369 rfl dX11_alarms_56 ?_
            refine lv_iconst (v := (1 : Int32)) S.1 S.2.1 dX11_alarms_59 (by decide) ?_
            refine lv_isub S.1 S.2.1 dX11_alarms_60 ?_
            obtain ⟨r_8, σ_8, e_8, h⟩ := b2s h
            refine mCallI S hK hc hKS hA (kX11_watches hc e_8) (cwX11_446 S.2.2.2.2 (rm := rmX11_watches) rfl rfl ⟨Nat.le_of_ble_eq_true rfl, Nat.le_of_ble_eq_true rfl⟩) hB rfl hl.1 rfl (lv_room (Nat.le_of_ble_eq_true rfl)) dX11_alarms_61 ⟨Nat.zero_le _, Nat.zero_le _⟩ (fun H locs hB => ?_)
            refine lv_if_ne (tgt := 71) S.1 S.2.1 dX11_alarms_64 (by decide) (fun c_9 => ?_) (fun c_9 => ?_)
            · replace h := (if_neg c_9).symm.trans h
              refine lv_iconst (v := (0 : Int32)) S.1 S.2.1 dX11_alarms_71 (by decide) ?_
              refine lv_iadd S.1 S.2.1 dX11_alarms_72 ?_
              refine lv_istore_n (lv' := [(2, .int (x2 + (0 : Int32))), (0, .ref (ad 0)), (1, .int x1), (3, .int x3)]) S.1 S.2.1 dX11_alarms_73 rfl hl (by decide) rfl (fun ls hl => ?_)
              refine lv_iinc (v := (x3 + (1 : Int32))) (lv' := [(3, .int (x3 + (1 : Int32))), (2, .int (x2 + (0 : Int32))), (0, .ref (ad 0)), (1, .int x1)]) S.1 S.2.1 dX11_alarms_74 hl (k := 3) rfl rfl (by decide) rfl (fun ls hl => ?_)
              refine lv_goto (tgt := 25) S.1 S.2.1 dX11_alarms_77 (by decide) ?_
              exact ih _ _ _ _ _ _ _ h hB (lv_sub hl [2, 3, 1, 0] rfl)
            · replace h := (if_pos c_9).symm.trans h
              refine lv_iconst (v := (1 : Int32)) S.1 S.2.1 dX11_alarms_67 (by decide) ?_
              refine lv_goto (tgt := 72) S.1 S.2.1 dX11_alarms_68 (by decide) ?_
              refine lv_iadd S.1 S.2.1 dX11_alarms_72 ?_
              refine lv_istore_n (lv' := [(2, .int (x2 + (1 : Int32))), (0, .ref (ad 0)), (1, .int x1), (3, .int x3)]) S.1 S.2.1 dX11_alarms_73 rfl hl (by decide) rfl (fun ls hl => ?_)
              refine lv_iinc (v := (x3 + (1 : Int32))) (lv' := [(3, .int (x3 + (1 : Int32))), (2, .int (x2 + (1 : Int32))), (0, .ref (ad 0)), (1, .int x1)]) S.1 S.2.1 dX11_alarms_74 hl (k := 3) rfl rfl (by decide) rfl (fun ls hl => ?_)
              refine lv_goto (tgt := 25) S.1 S.2.1 dX11_alarms_77 (by decide) ?_
              exact ih _ _ _ _ _ _ _ h hB (lv_sub hl [2, 3, 1, 0] rfl)
  refine lv_aload_n S.1 S.2.1 dX11_alarms_0 rfl (lv_at hl 0 rfl) ?_
  refine lv_iconst (v := (0 : Int32)) S.1 S.2.1 dX11_alarms_1 (by decide) ?_
  refine mp_thrown S hK hB wf_X11_91 dX11_alarms_2 (fun H locs hB => ?_)
  refine lv_iload_n S.1 S.2.1 dX11_alarms_5 rfl (lv_at hl 1 rfl) ?_
  refine lv_iconst (v := (0 : Int32)) S.1 S.2.1 dX11_alarms_6 (by decide) ?_
  refine lv_bipush (v := (9 : Int32)) S.1 S.2.1 dX11_alarms_7 (by decide) ?_
  obtain ⟨r_1, e_1, h⟩ := bnd h
  refine mCallSI S hK hc hKS hA (kX11_isIn hc e_1) (cwX11_101 S.2.2.2.2 (rm := rmX11_isIn) rfl rfl ⟨Nat.le_of_ble_eq_true rfl, Nat.le_of_ble_eq_true rfl⟩) hB rfl hl.1 rfl (lv_room (Nat.le_of_ble_eq_true rfl)) dX11_alarms_9 ⟨Nat.zero_le _, Nat.zero_le _⟩ (fun H locs hB => ?_)
  refine lv_if_ne (tgt := 21) S.1 S.2.1 dX11_alarms_12 (by decide) (fun c_2 => ?_) (fun c_2 => ?_)
  · replace h := (if_neg c_2).symm.trans h
    refine lv_iconst (v := (0 : Int32)) S.1 S.2.1 dX11_alarms_21 (by decide) ?_
    refine lv_istore_n (lv' := [(2, .int (0 : Int32)), (0, .ref (ad 0)), (1, .int p0)]) S.1 S.2.1 dX11_alarms_22 rfl hl (by decide) rfl (fun ls hl => ?_)
    refine lv_iconst (v := (0 : Int32)) S.1 S.2.1 dX11_alarms_23 (by decide) ?_
    refine lv_istore_n (lv' := [(3, .int (0 : Int32)), (2, .int (0 : Int32)), (0, .ref (ad 0)), (1, .int p0)]) S.1 S.2.1 dX11_alarms_24 rfl hl (by decide) rfl (fun ls hl => ?_)
    exact P25  L _ _ _ _ _ _ _ h hB (lv_sub hl [2, 3, 1, 0] rfl)
  · replace h := (if_pos c_2).symm.trans h
    refine lv_aload_n S.1 S.2.1 dX11_alarms_15 rfl (lv_at hl 0 rfl) ?_
    refine lv_iconst (v := (1 : Int32)) S.1 S.2.1 dX11_alarms_16 (by decide) ?_
    obtain ⟨r_10, σ_10, e_10, h⟩ := b2s h
    refine mCallI S hK hc hKS hA (kX11_no hc e_10) (cwX11_97 S.2.2.2.2 (rm := rmX11_no) rfl rfl ⟨Nat.le_of_ble_eq_true rfl, Nat.le_of_ble_eq_true rfl⟩) hB rfl hl.1 rfl (lv_room (Nat.le_of_ble_eq_true rfl)) dX11_alarms_17 ⟨Nat.zero_le _, Nat.zero_le _⟩ (fun H locs hB => ?_)
    cases h
    exact gRetI S.1 S.2.1 hr hlk hB dX11_alarms_20
def FX11_differ_21 (L : Nat)   (σ1 : MS) : Option (Int32 × MS) :=
    b2 (FX11_no (1 : Int32) σ1) fun r_3 σ_3 =>
    some (r_3, σ_3)
def FX11_differ_29 (L : Nat)  : Nat → Int32 → Int32 → Int32 → MS → Option (Int32 × MS)
  | 0, _, _, _, _ => none
  | n+1, x1, x2, x3, σ1 =>
    if (σ1.1 29) ≤ x3 then
      some ((-1 : Int32), σ1)
    else
      b2 (FX11_watches x1 x3 σ1) fun r_7 σ_7 =>
      b2 (FX11_watches x2 x3 σ_7) fun r_8 σ_8 =>
      if r_7 = r_8 then
        (FX11_differ_29 L n) x1 x2 (x3 + (1 : Int32)) σ_8
      else
        some (x3, σ_8)
def FX11_differ (L : Nat) (p0 : Int32) (p1 : Int32) (σ : MS) : Option (Int32 × MS) :=
  b2 (FX11_isWatch p0 (sI σ 0 (0 : Int32))) fun r_1 σ_1 =>
  if r_1 = 0 then
    FX11_differ_21 L σ_1
  else
    b2 (FX11_isWatch p1 σ_1) fun r_4 σ_4 =>
    if r_4 = 0 then
      FX11_differ_21 L σ_4
    else
      FX11_differ_29 L L p0 p1 (0 : Int32) σ_4
abbrev rmX11_differ : Room := { frames := 3, cells := 0, slots := 0, locals := 66 }
set_option maxRecDepth 100000 in
set_option maxHeartbeats 4000000 in
theorem kX11_differ {l : Launch} {D : va_G} {cI cJ : ClassId} {ad : Nat → Nat} {KS : (Nat → Prop) → State → Prop} {L : Nat} (hc : gC KS) {p0 : Int32} {p1 : Int32} {σ σ' : MS} {r : Int32} (h : FX11_differ L p0 p1 σ = some (r, σ')) : gMet l yX11_differ qX11_differ rmX11_differ 0 0 D vwCl [(cI, .int), (cJ, .long)] KS [.ref (ad 0), .int p0, .int p1] (MW cI cJ ad σ) (MW cI cJ ad σ') (some (.int r)) := by
  refine gMet.of (cc := cX11_differ) (maxL := 4) (ret := (some .int)) (by decide) rfl (Nat.le_of_ble_eq_true rfl) ?_
  intro p e s m args below meth c S hr hlk hnm hK hKS hA hB ls hl
  have hl : lv_has ls 4 [(0, .ref (ad 0)), (1, .int p0), (2, .int p1)] := hl
  replace S : CallFix p m c cX11_differ 4 s args (_ :: wsL_law) RX11 := S
  rw [FX11_differ] at h
  have P21 : ∀  (σ1 : MS) (H : Heap) (locs : List Loc) (ls : Array Slot), FX11_differ_21 L  σ1 = some (r, σ') → gB D vwCl (va_A (MW cI cJ ad σ) s.heap.size) s.heap (MW cI cJ ad σ1) [] H locs → lv_has ls 4 [(0, .ref (ad 0))] → W p l e rmX11_differ s m args below meth c H locs 0 0 (MQ below (gQ D vwCl (MW cI cJ ad σ) (MW cI cJ ad σ') (some (.int r)) s.heap.size) args s 0 0 (va_A (MW cI cJ ad σ) s.heap.size)) (F0 m 21 ls []) := by
    intro   σ1 H locs ls h hB hl
    rw [FX11_differ_21] at h
    refine lv_aload_n S.1 S.2.1 dX11_differ_21 rfl (lv_at hl 0 rfl) ?_
    refine lv_iconst (v := (1 : Int32)) S.1 S.2.1 dX11_differ_22 (by decide) ?_
    obtain ⟨r_3, σ_3, e_3, h⟩ := b2s h
    refine mCallI S hK hc hKS hA (kX11_no hc e_3) (cwX11_97 S.2.2.2.2 (rm := rmX11_no) rfl rfl ⟨Nat.le_of_ble_eq_true rfl, Nat.le_of_ble_eq_true rfl⟩) hB rfl hl.1 rfl (lv_room (Nat.le_of_ble_eq_true rfl)) dX11_differ_23 ⟨Nat.zero_le _, Nat.zero_le _⟩ (fun H locs hB => ?_)
    cases h
    exact gRetI S.1 S.2.1 hr hlk hB dX11_differ_26
  have P29 : ∀  (n : Nat), ∀ (x1 : Int32) (x2 : Int32) (x3 : Int32) (σ1 : MS) (H : Heap) (locs : List Loc) (ls : Array Slot), FX11_differ_29 L n x1 x2 x3 σ1 = some (r, σ') → gB D vwCl (va_A (MW cI cJ ad σ) s.heap.size) s.heap (MW cI cJ ad σ1) [] H locs → lv_has ls 4 [(0, .ref (ad 0)), (1, .int x1), (2, .int x2), (3, .int x3)] → W p l e rmX11_differ s m args below meth c H locs 0 0 (MQ below (gQ D vwCl (MW cI cJ ad σ) (MW cI cJ ad σ') (some (.int r)) s.heap.size) args s 0 0 (va_A (MW cI cJ ad σ) s.heap.size)) (F0 m 29 ls []) := by
    intro n
    induction n with
    | zero => intro x1 x2 x3 σ1 H locs ls h; simp only [FX11_differ_29] at h; cases h
    | succ n ih =>
      intro x1 x2 x3 σ1 H locs ls h hB hl
      rw [FX11_differ_29] at h
      refine lv_iload_n S.1 S.2.1 dX11_differ_29 rfl (lv_at hl 3 rfl) ?_
      refine lv_aload_n S.1 S.2.1 dX11_differ_30 rfl (lv_at hl 0 rfl) ?_
      refine mg_steps S hK hB wf_X11_369 rfl dX11_differ_31 ?_
      refine lv_icmp_ge (tgt := 60) S.1 S.2.1 dX11_differ_34 (by decide) (fun c_6 => ?_) (fun c_6 => ?_)
      · replace h := (if_pos c_6).symm.trans h
        refine lv_iconst (v := (-1 : Int32)) S.1 S.2.1 dX11_differ_60 (by decide) ?_
        cases h
        exact gRetI S.1 S.2.1 hr hlk hB dX11_differ_61
      · replace h := (if_neg c_6).symm.trans h
        refine lv_aload_n S.1 S.2.1 dX11_differ_37 rfl (lv_at hl 0 rfl) ?_
        refine lv_iload_n S.1 S.2.1 dX11_differ_38 rfl (lv_at hl 1 rfl) ?_
        refine lv_iload_n S.1 S.2.1 dX11_differ_39 rfl (lv_at hl 3 rfl) ?_
        obtain ⟨r_7, σ_7, e_7, h⟩ := b2s h
        refine mCallI S hK hc hKS hA (kX11_watches hc e_7) (cwX11_446 S.2.2.2.2 (rm := rmX11_watches) rfl rfl ⟨Nat.le_of_ble_eq_true rfl, Nat.le_of_ble_eq_true rfl⟩) hB rfl hl.1 rfl (lv_room (Nat.le_of_ble_eq_true rfl)) dX11_differ_40 ⟨Nat.zero_le _, Nat.zero_le _⟩ (fun H locs hB => ?_)
        refine lv_aload_n S.1 S.2.1 dX11_differ_43 rfl (lv_at hl 0 rfl) ?_
        refine lv_iload_n S.1 S.2.1 dX11_differ_44 rfl (lv_at hl 2 rfl) ?_
        refine lv_iload_n S.1 S.2.1 dX11_differ_45 rfl (lv_at hl 3 rfl) ?_
        obtain ⟨r_8, σ_8, e_8, h⟩ := b2s h
        refine mCallI S hK hc hKS hA (kX11_watches hc e_8) (cwX11_446 S.2.2.2.2 (rm := rmX11_watches) rfl rfl ⟨Nat.le_of_ble_eq_true rfl, Nat.le_of_ble_eq_true rfl⟩) hB rfl hl.1 rfl (lv_room (Nat.le_of_ble_eq_true rfl)) dX11_differ_46 ⟨Nat.zero_le _, Nat.zero_le _⟩ (fun H locs hB => ?_)
        refine lv_icmp_eq (tgt := 54) S.1 S.2.1 dX11_differ_49 (by decide) (fun c_9 => ?_) (fun c_9 => ?_)
        · replace h := (if_pos c_9).symm.trans h
          refine lv_iinc (v := (x3 + (1 : Int32))) (lv' := [(3, .int (x3 + (1 : Int32))), (0, .ref (ad 0)), (1, .int x1), (2, .int x2)]) S.1 S.2.1 dX11_differ_54 hl (k := 3) rfl rfl (by decide) rfl (fun ls hl => ?_)
          refine lv_goto (tgt := 29) S.1 S.2.1 dX11_differ_57 (by decide) ?_
          exact ih _ _ _ _ _ _ _ h hB (lv_sub hl [1, 2, 3, 0] rfl)
        · replace h := (if_neg c_9).symm.trans h
          refine lv_iload_n S.1 S.2.1 dX11_differ_52 rfl (lv_at hl 3 rfl) ?_
          cases h
          exact gRetI S.1 S.2.1 hr hlk hB dX11_differ_53
  refine lv_aload_n S.1 S.2.1 dX11_differ_0 rfl (lv_at hl 0 rfl) ?_
  refine lv_iconst (v := (0 : Int32)) S.1 S.2.1 dX11_differ_1 (by decide) ?_
  refine mp_thrown S hK hB wf_X11_91 dX11_differ_2 (fun H locs hB => ?_)
  refine lv_aload_n S.1 S.2.1 dX11_differ_5 rfl (lv_at hl 0 rfl) ?_
  refine lv_iload_n S.1 S.2.1 dX11_differ_6 rfl (lv_at hl 1 rfl) ?_
  obtain ⟨r_1, σ_1, e_1, h⟩ := b2s h
  refine mCallI S hK hc hKS hA (kX11_isWatch hc e_1) (cwX11_465 S.2.2.2.2 (rm := rmX11_isWatch) rfl rfl ⟨Nat.le_of_ble_eq_true rfl, Nat.le_of_ble_eq_true rfl⟩) hB rfl hl.1 rfl (lv_room (Nat.le_of_ble_eq_true rfl)) dX11_differ_7 ⟨Nat.zero_le _, Nat.zero_le _⟩ (fun H locs hB => ?_)
  refine lv_if_eq (tgt := 21) S.1 S.2.1 dX11_differ_10 (by decide) (fun c_2 => ?_) (fun c_2 => ?_)
  · replace h := (if_pos c_2).symm.trans h
    exact P21  _ _ _ _ h hB (lv_sub hl [0] rfl)
  · replace h := (if_neg c_2).symm.trans h
    refine lv_aload_n S.1 S.2.1 dX11_differ_13 rfl (lv_at hl 0 rfl) ?_
    refine lv_iload_n S.1 S.2.1 dX11_differ_14 rfl (lv_at hl 2 rfl) ?_
    obtain ⟨r_4, σ_4, e_4, h⟩ := b2s h
    refine mCallI S hK hc hKS hA (kX11_isWatch hc e_4) (cwX11_465 S.2.2.2.2 (rm := rmX11_isWatch) rfl rfl ⟨Nat.le_of_ble_eq_true rfl, Nat.le_of_ble_eq_true rfl⟩) hB rfl hl.1 rfl (lv_room (Nat.le_of_ble_eq_true rfl)) dX11_differ_15 ⟨Nat.zero_le _, Nat.zero_le _⟩ (fun H locs hB => ?_)
    refine lv_if_ne (tgt := 27) S.1 S.2.1 dX11_differ_18 (by decide) (fun c_5 => ?_) (fun c_5 => ?_)
    · replace h := (if_neg c_5).symm.trans h
      refine lv_iconst (v := (0 : Int32)) S.1 S.2.1 dX11_differ_27 (by decide) ?_
      refine lv_istore_n (lv' := [(3, .int (0 : Int32)), (0, .ref (ad 0)), (1, .int p0), (2, .int p1)]) S.1 S.2.1 dX11_differ_28 rfl hl (by decide) rfl (fun ls hl => ?_)
      exact P29  L _ _ _ _ _ _ _ h hB (lv_sub hl [1, 2, 3, 0] rfl)
    · replace h := (if_pos c_5).symm.trans h
      exact P21  _ _ _ _ h hB (lv_sub hl [0] rfl)
def FX11_share_14 (L : Nat)  (x1 : Int32) (y1 : Int32) (σ1 : MS) : Option (UInt64 × MS) :=
    if y1 = 0 then
      if (σ1.1 29) = 0 then
        some (FP.dconst1, (sI σ1 0 y1))
      else
        b2 (FX11_toldOf L x1 (1 : Int32) (sI σ1 0 y1)) fun r_5 σ_5 =>
        if (¬ ((FP.ddiv (FP.i2d ((σ1.1 29) - r_5)) (FP.i2d (σ_5.1 29))) &&& 0x7fffffffffffffff ≤ 0x7ff0000000000000)) then none else
        some ((FP.ddiv (FP.i2d ((σ1.1 29) - r_5)) (FP.i2d (σ_5.1 29))), σ_5)
    else
      some (FP.dconst0, (sI σ1 0 y1))
def FX11_share (L : Nat) (p0 : Int32) (σ : MS) : Option (UInt64 × MS) :=
  b2 (FX11_isWatch p0 σ) fun r_1 σ_1 =>
  if r_1 = 0 then
    FX11_share_14 L p0 (1 : Int32) σ_1
  else
    FX11_share_14 L p0 (0 : Int32) σ_1
abbrev rmX11_share : Room := { frames := 4, cells := 0, slots := 0, locals := 94 }
set_option maxRecDepth 100000 in
set_option maxHeartbeats 4000000 in
theorem kX11_share {l : Launch} {D : va_G} {cI cJ : ClassId} {ad : Nat → Nat} {KS : (Nat → Prop) → State → Prop} {L : Nat} (hc : gC KS) {p0 : Int32} {σ σ' : MS} {r : UInt64} (h : FX11_share L p0 σ = some (r, σ')) : gMet l yX11_share qX11_share rmX11_share 0 0 D vwCl [(cI, .int), (cJ, .long)] KS [.ref (ad 0), .int p0] (MW cI cJ ad σ) (MW cI cJ ad σ') (some (.double r)) := by
  refine gMet.of (cc := cX11_share) (maxL := 2) (ret := (some .double)) (by decide) rfl (Nat.le_of_ble_eq_true rfl) ?_
  intro p e s m args below meth c S hr hlk hnm hK hKS hA hB ls hl
  have hl : lv_has ls 2 [(0, .ref (ad 0)), (1, .int p0)] := hl
  replace S : CallFix p m c cX11_share 2 s args (_ :: wsL_law) RX11 := S
  rw [FX11_share] at h
  have P14 : ∀ (x1 : Int32) (y1 : Int32) (σ1 : MS) (H : Heap) (locs : List Loc) (ls : Array Slot), FX11_share_14 L x1 y1 σ1 = some (r, σ') → gB D vwCl (va_A (MW cI cJ ad σ) s.heap.size) s.heap (MW cI cJ ad σ1) [] H locs → lv_has ls 2 [(0, .ref (ad 0)), (1, .int x1)] → W p l e rmX11_share s m args below meth c H locs 0 0 (MQ below (gQ D vwCl (MW cI cJ ad σ) (MW cI cJ ad σ') (some (.double r)) s.heap.size) args s 0 0 (va_A (MW cI cJ ad σ) s.heap.size)) (F0 m 14 ls [.int y1, .ref (ad 0)]) := by
    intro  x1 y1 σ1 H locs ls h hB hl
    rw [FX11_share_14] at h
    refine mp_thrown S hK hB wf_X11_91 dX11_share_14 (fun H locs hB => ?_)
    refine lv_aload_n S.1 S.2.1 dX11_share_17 rfl (lv_at hl 0 rfl) ?_
    refine mg_thrown (v := y1) S hK hB wf_X11_91 rfl dX11_share_18 ?_
    refine lv_if_eq (tgt := 26) S.1 S.2.1 dX11_share_21 (by decide) (fun c_3 => ?_) (fun c_3 => ?_)
    · replace h := (if_pos c_3).symm.trans h
      refine lv_aload_n S.1 S.2.1 dX11_share_26 rfl (lv_at hl 0 rfl) ?_
      refine mg_steps (v := (σ1.1 29)) S hK hB wf_X11_369 rfl dX11_share_27 ?_
      refine lv_if_ne (tgt := 37) S.1 S.2.1 dX11_share_30 (by decide) (fun c_4 => ?_) (fun c_4 => ?_)
      · replace h := (if_neg c_4).symm.trans h
        refine lv_aload_n S.1 S.2.1 dX11_share_37 rfl (lv_at hl 0 rfl) ?_
        refine mg_steps (v := (σ1.1 29)) S hK hB wf_X11_369 rfl dX11_share_38 ?_
        refine lv_aload_n S.1 S.2.1 dX11_share_41 rfl (lv_at hl 0 rfl) ?_
        refine lv_iload_n S.1 S.2.1 dX11_share_42 rfl (lv_at hl 1 rfl) ?_
        refine lv_iconst (v := (1 : Int32)) S.1 S.2.1 dX11_share_43 (by decide) ?_
        obtain ⟨r_5, σ_5, e_5, h⟩ := b2s h
        refine mCallI S hK hc hKS hA (kX11_toldOf hc e_5) (cwX11_468 S.2.2.2.2 (rm := rmX11_toldOf) rfl rfl ⟨Nat.le_of_ble_eq_true rfl, Nat.le_of_ble_eq_true rfl⟩) hB rfl hl.1 rfl (lv_room (Nat.le_of_ble_eq_true rfl)) dX11_share_44 ⟨Nat.zero_le _, Nat.zero_le _⟩ (fun H locs hB => ?_)
        refine lv_isub S.1 S.2.1 dX11_share_47 ?_
        refine lv_i2d S.1 S.2.1 dX11_share_48 ?_
        refine lv_aload_n S.1 S.2.1 dX11_share_49 rfl (lv_at hl 0 rfl) ?_
        refine mg_steps S hK hB wf_X11_369 rfl dX11_share_50 ?_
        refine lv_i2d S.1 S.2.1 dX11_share_53 ?_
        obtain ⟨z_6, h⟩ := gd h
        refine lv_ddiv S.1 S.2.1 dX11_share_54 (Classical.not_not.mp z_6) ?_
        cases h
        exact gRetD S.1 S.2.1 hr hlk hB dX11_share_55
      · replace h := (if_pos c_4).symm.trans h
        refine lv_dconst1 S.1 S.2.1 dX11_share_33 ?_
        refine lv_goto (tgt := 55) S.1 S.2.1 dX11_share_34 (by decide) ?_
        cases h
        exact gRetD S.1 S.2.1 hr hlk hB dX11_share_55
    · replace h := (if_neg c_3).symm.trans h
      refine lv_dconst0 S.1 S.2.1 dX11_share_24 ?_
      cases h
      exact gRetD S.1 S.2.1 hr hlk hB dX11_share_25
  refine lv_aload_n S.1 S.2.1 dX11_share_0 rfl (lv_at hl 0 rfl) ?_
  refine lv_aload_n S.1 S.2.1 dX11_share_1 rfl (lv_at hl 0 rfl) ?_
  refine lv_iload_n S.1 S.2.1 dX11_share_2 rfl (lv_at hl 1 rfl) ?_
  obtain ⟨r_1, σ_1, e_1, h⟩ := b2s h
  refine mCallI S hK hc hKS hA (kX11_isWatch hc e_1) (cwX11_465 S.2.2.2.2 (rm := rmX11_isWatch) rfl rfl ⟨Nat.le_of_ble_eq_true rfl, Nat.le_of_ble_eq_true rfl⟩) hB rfl hl.1 rfl (lv_room (Nat.le_of_ble_eq_true rfl)) dX11_share_3 ⟨Nat.zero_le _, Nat.zero_le _⟩ (fun H locs hB => ?_)
  refine lv_if_eq (tgt := 13) S.1 S.2.1 dX11_share_6 (by decide) (fun c_2 => ?_) (fun c_2 => ?_)
  · replace h := (if_pos c_2).symm.trans h
    refine lv_iconst (v := (1 : Int32)) S.1 S.2.1 dX11_share_13 (by decide) ?_
    exact P14  _ _ _ _ _ _ h hB hl
  · replace h := (if_neg c_2).symm.trans h
    refine lv_iconst (v := (0 : Int32)) S.1 S.2.1 dX11_share_9 (by decide) ?_
    refine lv_goto (tgt := 14) S.1 S.2.1 dX11_share_10 (by decide) ?_
    exact P14  _ _ _ _ _ _ h hB hl
def FX11_node (p0 : Int32) (p1 : Int32) (p2 : Int32) (p3 : Int32) (p4 : Int32) (σ : MS) : Option (Int32 × MS) :=
  if ((σ.1 8) < 0 ∨ 1203 ≤ (σ.1 8).toNatClampNeg) then none else
  if ((σ.1 8) < 0 ∨ 1203 ≤ (σ.1 8).toNatClampNeg) then none else
  if ((σ.1 8) < 0 ∨ 1203 ≤ (σ.1 8).toNatClampNeg) then none else
  if ((σ.1 8) < 0 ∨ 1203 ≤ (σ.1 8).toNatClampNeg) then none else
  if ((σ.1 8) < 0 ∨ 1203 ≤ (σ.1 8).toNatClampNeg) then none else
  if ((σ.1 8) < 0 ∨ 1203 ≤ (σ.1 8).toNatClampNeg) then none else
  if ((σ.1 8) < 0 ∨ 1203 ≤ (σ.1 8).toNatClampNeg) then none else
  some ((0 : Int32), (sI (sI (sA (sA (sA (sA (sA (sA (sA σ 9 (upd (σ.2.1 9) (σ.1 8).toNatClampNeg p0)) 10 (upd (σ.2.1 10) (σ.1 8).toNatClampNeg p1)) 11 (upd (σ.2.1 11) (σ.1 8).toNatClampNeg p2)) 12 (upd (σ.2.1 12) (σ.1 8).toNatClampNeg p3)) 13 (upd (σ.2.1 13) (σ.1 8).toNatClampNeg (0 : Int32))) 14 (upd (σ.2.1 14) (σ.1 8).toNatClampNeg (-1 : Int32))) 15 (upd (σ.2.1 15) (σ.1 8).toNatClampNeg p4)) 17 (σ.1 8)) 8 ((σ.1 8) + (1 : Int32))))
abbrev rmX11_node : Room := { frames := 0, cells := 0, slots := 0, locals := 0 }
set_option maxRecDepth 100000 in
set_option maxHeartbeats 4000000 in
theorem kX11_node {l : Launch} {D : va_G} {cI cJ : ClassId} {ad : Nat → Nat} {KS : (Nat → Prop) → State → Prop} (hc : gC KS) {p0 : Int32} {p1 : Int32} {p2 : Int32} {p3 : Int32} {p4 : Int32} {σ σ' : MS} {r : Int32} (h : FX11_node p0 p1 p2 p3 p4 σ = some (r, σ')) : gMet l yX11_node qX11_node rmX11_node 0 0 D vwCl [(cI, .int), (cJ, .long)] KS [.ref (ad 0), .int p0, .int p1, .int p2, .int p3, .int p4] (MW cI cJ ad σ) (MW cI cJ ad σ') (some (.int r)) := by
  refine gMet.of (cc := cX11_node) (maxL := 6) (ret := (some .int)) (by decide) rfl (Nat.le_of_ble_eq_true rfl) ?_
  intro p e s m args below meth c S hr hlk hnm hK hKS hA hB ls hl
  have hl : lv_has ls 6 [(0, .ref (ad 0)), (1, .int p0), (2, .int p1), (3, .int p2), (4, .int p3), (5, .int p4)] := hl
  replace S : CallFix p m c cX11_node 6 s args (_ :: wsL_law) RX11 := S
  rw [FX11_node] at h
  refine lv_aload_n S.1 S.2.1 dX11_node_0 rfl (lv_at hl 0 rfl) ?_
  refine mg_kind S hK hB wf_X11_26 dX11_node_1 ?_
  refine lv_aload_n S.1 S.2.1 dX11_node_4 rfl (lv_at hl 0 rfl) ?_
  refine mg_nodes S hK hB wf_X11_312 rfl dX11_node_5 ?_
  refine lv_iload_n S.1 S.2.1 dX11_node_8 rfl (lv_at hl 1 rfl) ?_
  obtain ⟨b_1, h⟩ := gd h
  refine ms_kind S hK hB b_1 dX11_node_9 (fun H locs hB => ?_)
  refine lv_aload_n S.1 S.2.1 dX11_node_10 rfl (lv_at hl 0 rfl) ?_
  refine mg_first S hK hB wf_X11_29 dX11_node_11 ?_
  refine lv_aload_n S.1 S.2.1 dX11_node_14 rfl (lv_at hl 0 rfl) ?_
  refine mg_nodes (v := (σ.1 8)) S hK hB wf_X11_312 rfl dX11_node_15 ?_
  refine lv_iload_n S.1 S.2.1 dX11_node_18 rfl (lv_at hl 2 rfl) ?_
  obtain ⟨b_2, h⟩ := gd h
  refine ms_first S hK hB b_2 dX11_node_19 (fun H locs hB => ?_)
  refine lv_aload_n S.1 S.2.1 dX11_node_20 rfl (lv_at hl 0 rfl) ?_
  refine mg_second S hK hB wf_X11_32 dX11_node_21 ?_
  refine lv_aload_n S.1 S.2.1 dX11_node_24 rfl (lv_at hl 0 rfl) ?_
  refine mg_nodes (v := (σ.1 8)) S hK hB wf_X11_312 rfl dX11_node_25 ?_
  refine lv_iload_n S.1 S.2.1 dX11_node_28 rfl (lv_at hl 3 rfl) ?_
  obtain ⟨b_3, h⟩ := gd h
  refine ms_second S hK hB b_3 dX11_node_29 (fun H locs hB => ?_)
  refine lv_aload_n S.1 S.2.1 dX11_node_30 rfl (lv_at hl 0 rfl) ?_
  refine mg_third S hK hB wf_X11_35 dX11_node_31 ?_
  refine lv_aload_n S.1 S.2.1 dX11_node_34 rfl (lv_at hl 0 rfl) ?_
  refine mg_nodes (v := (σ.1 8)) S hK hB wf_X11_312 rfl dX11_node_35 ?_
  refine lv_iload S.1 S.2.1 dX11_node_38 (lv_at hl 4 rfl) ?_
  obtain ⟨b_4, h⟩ := gd h
  refine ms_third S hK hB b_4 dX11_node_40 (fun H locs hB => ?_)
  refine lv_aload_n S.1 S.2.1 dX11_node_41 rfl (lv_at hl 0 rfl) ?_
  refine mg_low S hK hB wf_X11_38 dX11_node_42 ?_
  refine lv_aload_n S.1 S.2.1 dX11_node_45 rfl (lv_at hl 0 rfl) ?_
  refine mg_nodes (v := (σ.1 8)) S hK hB wf_X11_312 rfl dX11_node_46 ?_
  refine lv_iconst (v := (0 : Int32)) S.1 S.2.1 dX11_node_49 (by decide) ?_
  obtain ⟨b_5, h⟩ := gd h
  refine ms_low S hK hB b_5 dX11_node_50 (fun H locs hB => ?_)
  refine lv_aload_n S.1 S.2.1 dX11_node_51 rfl (lv_at hl 0 rfl) ?_
  refine mg_high S hK hB wf_X11_41 dX11_node_52 ?_
  refine lv_aload_n S.1 S.2.1 dX11_node_55 rfl (lv_at hl 0 rfl) ?_
  refine mg_nodes (v := (σ.1 8)) S hK hB wf_X11_312 rfl dX11_node_56 ?_
  refine lv_iconst (v := (-1 : Int32)) S.1 S.2.1 dX11_node_59 (by decide) ?_
  obtain ⟨b_6, h⟩ := gd h
  refine ms_high S hK hB b_6 dX11_node_60 (fun H locs hB => ?_)
  refine lv_aload_n S.1 S.2.1 dX11_node_61 rfl (lv_at hl 0 rfl) ?_
  refine mg_place S hK hB wf_X11_44 dX11_node_62 ?_
  refine lv_aload_n S.1 S.2.1 dX11_node_65 rfl (lv_at hl 0 rfl) ?_
  refine mg_nodes (v := (σ.1 8)) S hK hB wf_X11_312 rfl dX11_node_66 ?_
  refine lv_iload S.1 S.2.1 dX11_node_69 (lv_at hl 5 rfl) ?_
  obtain ⟨b_7, h⟩ := gd h
  refine ms_place S hK hB b_7 dX11_node_71 (fun H locs hB => ?_)
  refine lv_aload_n S.1 S.2.1 dX11_node_72 rfl (lv_at hl 0 rfl) ?_
  refine lv_aload_n S.1 S.2.1 dX11_node_73 rfl (lv_at hl 0 rfl) ?_
  refine mg_nodes (v := (σ.1 8)) S hK hB wf_X11_312 rfl dX11_node_74 ?_
  refine mp_made S hK hB wf_X11_309 dX11_node_77 (fun H locs hB => ?_)
  refine lv_aload_n S.1 S.2.1 dX11_node_80 rfl (lv_at hl 0 rfl) ?_
  refine lv_dup S.1 S.2.1 dX11_node_81 rfl ?_
  refine mg_nodes (v := (σ.1 8)) S hK hB wf_X11_312 rfl dX11_node_82 ?_
  refine lv_iconst (v := (1 : Int32)) S.1 S.2.1 dX11_node_85 (by decide) ?_
  refine lv_iadd S.1 S.2.1 dX11_node_86 ?_
  refine mp_nodes S hK hB wf_X11_312 dX11_node_87 (fun H locs hB => ?_)
  refine lv_iconst (v := (0 : Int32)) S.1 S.2.1 dX11_node_90 (by decide) ?_
  cases h
  exact gRetI S.1 S.2.1 hr hlk hB dX11_node_91
def FX11_answer_40 (L : Nat)  : Nat → Int32 → Int32 → MS → Option (Int32 × MS)
  | 0, _, _, _ => none
  | n+1, x1, x2, σ1 =>
    if x1 < x2 then
      b2 (FX11_holds (σ1.1 28) x1 σ1) fun r_6 σ_6 =>
      if (r_6 ≠ 0 ∧ r_6 ≠ 1) then none else
      some (r_6, σ_6)
    else
      b2 (FX11_reckon L (σ1.1 27) (σ1.1 40) x2 σ1) fun (_ : Unit) σ_8 =>
      (FX11_answer_40 L n) x1 (x2 + (1 : Int32)) σ_8
def FX11_answer (L : Nat) (p0 : Int32) (σ : MS) : Option (Int32 × MS) :=
  b2 (FX11_isStep p0 σ) fun r_1 σ_1 =>
  if r_1 = 0 then
    some ((0 : Int32), (sI σ_1 0 (1 : Int32)))
  else
    if (σ_1.1 28) = (-1 : Int32) then
      some ((0 : Int32), (sI σ_1 0 (2 : Int32)))
    else
      FX11_answer_40 L L p0 (0 : Int32) (sI σ_1 0 (0 : Int32))
abbrev rmX11_answer : Room := { frames := 5, cells := 0, slots := 0, locals := 120 }
set_option maxRecDepth 100000 in
set_option maxHeartbeats 4000000 in
theorem kX11_answer {l : Launch} {D : va_G} {cI cJ : ClassId} {ad : Nat → Nat} {KS : (Nat → Prop) → State → Prop} {L : Nat} (hc : gC KS) {p0 : Int32} {σ σ' : MS} {r : Int32} (h : FX11_answer L p0 σ = some (r, σ')) : gMet l yX11_answer qX11_answer rmX11_answer 0 0 D vwCl [(cI, .int), (cJ, .long)] KS [.ref (ad 0), .int p0] (MW cI cJ ad σ) (MW cI cJ ad σ') (some (.int r)) := by
  refine gMet.of (cc := cX11_answer) (maxL := 3) (ret := (some .boolean)) (by decide) rfl (Nat.le_of_ble_eq_true rfl) ?_
  intro p e s m args below meth c S hr hlk hnm hK hKS hA hB ls hl
  have hl : lv_has ls 3 [(0, .ref (ad 0)), (1, .int p0)] := hl
  replace S : CallFix p m c cX11_answer 3 s args (_ :: wsL_law) RX11 := S
  rw [FX11_answer] at h
  have P40 : ∀  (n : Nat), ∀ (x1 : Int32) (x2 : Int32) (σ1 : MS) (H : Heap) (locs : List Loc) (ls : Array Slot), FX11_answer_40 L n x1 x2 σ1 = some (r, σ') → gB D vwCl (va_A (MW cI cJ ad σ) s.heap.size) s.heap (MW cI cJ ad σ1) [] H locs → lv_has ls 3 [(0, .ref (ad 0)), (1, .int x1), (2, .int x2)] → W p l e rmX11_answer s m args below meth c H locs 0 0 (MQ below (gQ D vwCl (MW cI cJ ad σ) (MW cI cJ ad σ') (some (.int r)) s.heap.size) args s 0 0 (va_A (MW cI cJ ad σ) s.heap.size)) (F0 m 40 ls []) := by
    intro n
    induction n with
    | zero => intro x1 x2 σ1 H locs ls h; simp only [FX11_answer_40] at h; cases h
    | succ n ih =>
      intro x1 x2 σ1 H locs ls h hB hl
      rw [FX11_answer_40] at h
      refine lv_iload_n S.1 S.2.1 dX11_answer_40 rfl (lv_at hl 2 rfl) ?_
      refine lv_iload_n S.1 S.2.1 dX11_answer_41 rfl (lv_at hl 1 rfl) ?_
      refine lv_icmp_gt (tgt := 64) S.1 S.2.1 dX11_answer_42 (by decide) (fun c_5 => ?_) (fun c_5 => ?_)
      · replace h := (if_pos c_5).symm.trans h
        refine lv_aload_n S.1 S.2.1 dX11_answer_64 rfl (lv_at hl 0 rfl) ?_
        refine lv_aload_n S.1 S.2.1 dX11_answer_65 rfl (lv_at hl 0 rfl) ?_
        refine mg_asked S hK hB wf_X11_73 rfl dX11_answer_66 ?_
        refine lv_iload_n S.1 S.2.1 dX11_answer_69 rfl (lv_at hl 1 rfl) ?_
        obtain ⟨r_6, σ_6, e_6, h⟩ := b2s h
        refine mCallI S hK hc hKS hA (kX11_holds hc e_6) (cwX11_407 S.2.2.2.2 (rm := rmX11_holds) rfl rfl ⟨Nat.le_of_ble_eq_true rfl, Nat.le_of_ble_eq_true rfl⟩) hB rfl hl.1 rfl (lv_room (Nat.le_of_ble_eq_true rfl)) dX11_answer_70 ⟨Nat.zero_le _, Nat.zero_le _⟩ (fun H locs hB => ?_)
        obtain ⟨z_7, h⟩ := gd h
        cases h
        exact gRetZ S.1 S.2.1 hr hlk hB (nzB z_7) dX11_answer_73
      · replace h := (if_neg c_5).symm.trans h
        refine lv_aload_n S.1 S.2.1 dX11_answer_45 rfl (lv_at hl 0 rfl) ?_
        refine lv_aload_n S.1 S.2.1 dX11_answer_46 rfl (lv_at hl 0 rfl) ?_
        refine mg_programNodes S hK hB wf_X11_366 rfl dX11_answer_47 ?_
        refine lv_aload_n S.1 S.2.1 dX11_answer_50 rfl (lv_at hl 0 rfl) ?_
        refine mg_askedEnd S hK hB wf_X11_477 rfl dX11_answer_51 ?_
        refine lv_iload_n S.1 S.2.1 dX11_answer_54 rfl (lv_at hl 2 rfl) ?_
        obtain ⟨_, σ_8, e_8, h⟩ := b2s h
        refine mCallV S hK hc hKS hA (kX11_reckon hc e_8) (cwX11_442 S.2.2.2.2 (rm := rmX11_reckon) rfl rfl ⟨Nat.le_of_ble_eq_true rfl, Nat.le_of_ble_eq_true rfl⟩) hB rfl hl.1 rfl (lv_room (Nat.le_of_ble_eq_true rfl)) dX11_answer_55 ⟨Nat.zero_le _, Nat.zero_le _⟩ (fun H locs hB => ?_)
        refine lv_iinc (v := (x2 + (1 : Int32))) (lv' := [(2, .int (x2 + (1 : Int32))), (0, .ref (ad 0)), (1, .int x1)]) S.1 S.2.1 dX11_answer_58 hl (k := 2) rfl rfl (by decide) rfl (fun ls hl => ?_)
        refine lv_goto (tgt := 40) S.1 S.2.1 dX11_answer_61 (by decide) ?_
        exact ih _ _ _ _ _ _ h hB (lv_sub hl [1, 2, 0] rfl)
  refine lv_aload_n S.1 S.2.1 dX11_answer_0 rfl (lv_at hl 0 rfl) ?_
  refine lv_aload_n S.1 S.2.1 dX11_answer_1 rfl (lv_at hl 0 rfl) ?_
  refine lv_iload_n S.1 S.2.1 dX11_answer_2 rfl (lv_at hl 1 rfl) ?_
  obtain ⟨r_1, σ_1, e_1, h⟩ := b2s h
  refine mCallI S hK hc hKS hA (kX11_isStep hc e_1) (cwX11_462 S.2.2.2.2 (rm := rmX11_isStep) rfl rfl ⟨Nat.le_of_ble_eq_true rfl, Nat.le_of_ble_eq_true rfl⟩) hB rfl hl.1 rfl (lv_room (Nat.le_of_ble_eq_true rfl)) dX11_answer_3 ⟨Nat.zero_le _, Nat.zero_le _⟩ (fun H locs hB => ?_)
  refine lv_if_ne (tgt := 13) S.1 S.2.1 dX11_answer_6 (by decide) (fun c_2 => ?_) (fun c_2 => ?_)
  · replace h := (if_neg c_2).symm.trans h
    refine lv_aload_n S.1 S.2.1 dX11_answer_13 rfl (lv_at hl 0 rfl) ?_
    refine mg_asked S hK hB wf_X11_73 rfl dX11_answer_14 ?_
    refine lv_iconst (v := (-1 : Int32)) S.1 S.2.1 dX11_answer_17 (by decide) ?_
    refine lv_icmp_ne (tgt := 25) S.1 S.2.1 dX11_answer_18 (by decide) (fun c_3 => ?_) (fun c_3 => ?_)
    · replace h := (if_neg c_3).symm.trans h
      refine lv_iconst (v := (0 : Int32)) S.1 S.2.1 dX11_answer_25 (by decide) ?_
      refine mp_thrown S hK hB wf_X11_91 dX11_answer_26 (fun H locs hB => ?_)
      refine lv_aload_n S.1 S.2.1 dX11_answer_29 rfl (lv_at hl 0 rfl) ?_
      refine mg_thrown (v := (0 : Int32)) S hK hB wf_X11_91 rfl dX11_answer_30 ?_
      refine lv_if_eq (tgt := 38) S.1 S.2.1 dX11_answer_33 (by decide) (fun c => ?_) (fun c => absurd (by decide) c)
      refine lv_iconst (v := (0 : Int32)) S.1 S.2.1 dX11_answer_38 (by decide) ?_
      refine lv_istore_n (lv' := [(2, .int (0 : Int32)), (0, .ref (ad 0)), (1, .int p0)]) S.1 S.2.1 dX11_answer_39 rfl hl (by decide) rfl (fun ls hl => ?_)
      exact P40  L _ _ _ _ _ _ h hB (lv_sub hl [1, 2, 0] rfl)
    · replace h := (if_pos c_3).symm.trans h
      refine lv_iconst (v := (2 : Int32)) S.1 S.2.1 dX11_answer_21 (by decide) ?_
      refine lv_goto (tgt := 26) S.1 S.2.1 dX11_answer_22 (by decide) ?_
      refine mp_thrown S hK hB wf_X11_91 dX11_answer_26 (fun H locs hB => ?_)
      refine lv_aload_n S.1 S.2.1 dX11_answer_29 rfl (lv_at hl 0 rfl) ?_
      refine mg_thrown (v := (2 : Int32)) S hK hB wf_X11_91 rfl dX11_answer_30 ?_
      refine lv_if_eq (tgt := 38) S.1 S.2.1 dX11_answer_33 (by decide) (fun c => absurd c (by decide)) (fun c => ?_)
      refine lv_iconst (v := (0 : Int32)) S.1 S.2.1 dX11_answer_36 (by decide) ?_
      cases h
      exact gRetZ S.1 S.2.1 hr hlk hB rfl dX11_answer_37
  · replace h := (if_pos c_2).symm.trans h
    refine lv_iconst (v := (1 : Int32)) S.1 S.2.1 dX11_answer_9 (by decide) ?_
    refine lv_goto (tgt := 26) S.1 S.2.1 dX11_answer_10 (by decide) ?_
    refine mp_thrown S hK hB wf_X11_91 dX11_answer_26 (fun H locs hB => ?_)
    refine lv_aload_n S.1 S.2.1 dX11_answer_29 rfl (lv_at hl 0 rfl) ?_
    refine mg_thrown (v := (1 : Int32)) S hK hB wf_X11_91 rfl dX11_answer_30 ?_
    refine lv_if_eq (tgt := 38) S.1 S.2.1 dX11_answer_33 (by decide) (fun c => absurd c (by decide)) (fun c => ?_)
    refine lv_iconst (v := (0 : Int32)) S.1 S.2.1 dX11_answer_36 (by decide) ?_
    cases h
    exact gRetZ S.1 S.2.1 hr hlk hB rfl dX11_answer_37
def FX11_digest_281 (L : Nat)  : Nat → Int64 → Int32 → MS → Option (Int64 × MS)
  | 0, _, _, _ => none
  | n+1, x1, x3, σ1 =>
    if ((0 : Int32) < 0 ∨ 4 ≤ (0 : Int32).toNatClampNeg) then none else
    if (σ1.2.1 23 (0 : Int32).toNatClampNeg) ≤ x3 then
      some (x1, σ1)
    else
      if (x3 < 0 ∨ 8 ≤ x3.toNatClampNeg) then none else
      (FX11_digest_281 L n) ((x1 * (31 : Int64)) + (σ1.2.2 32 x3.toNatClampNeg)) (x3 + (1 : Int32)) σ1
def FX11_digest_246 (L : Nat) (k233 : Int64 → Int32 → MS → Option (Int64 × MS)) : Nat → Int64 → Int32 → Int32 → MS → Option (Int64 × MS)
  | 0, _, _, _, _ => none
  | n+1, x1, x3, x4, σ1 =>
    if (5 : Int32) ≤ x4 then
      k233 x1 (x3 + (1 : Int32)) σ1
    else
      b2 (FX11_toldOf L x3 x4 σ1) fun r_9 σ_9 =>
      (FX11_digest_246 L k233 n) ((x1 * (31 : Int64)) + r_9.toInt64) x3 (x4 + (1 : Int32)) σ_9
def FX11_digest_233 (L : Nat)  : Nat → Int64 → Int32 → MS → Option (Int64 × MS)
  | 0, _, _, _ => none
  | n+1, x1, x3, σ1 =>
    if ((3 : Int32) < 0 ∨ 4 ≤ (3 : Int32).toNatClampNeg) then none else
    if (σ1.2.1 23 (3 : Int32).toNatClampNeg) ≤ x3 then
      FX11_digest_281 L L x1 (0 : Int32) σ1
    else
      FX11_digest_246 L (FX11_digest_233 L n) L x1 x3 (0 : Int32) σ1
def FX11_digest_186 (L : Nat) (k38 : Int64 → Int32 → MS → Option (Int64 × MS)) : Nat → Int64 → Int32 → Int32 → MS → Option (Int64 × MS)
  | 0, _, _, _, _ => none
  | n+1, x1, x3, x4, σ1 =>
    if ((3 : Int32) < 0 ∨ 4 ≤ (3 : Int32).toNatClampNeg) then none else
    if (σ1.2.1 23 (3 : Int32).toNatClampNeg) ≤ x4 then
      k38 x1 (x3 + (1 : Int32)) σ1
    else
      if (((36 : Int32) + x4) < 0 ∨ 48 ≤ ((36 : Int32) + x4).toNatClampNeg) then none else
      b2 (FX11_at (σ1.2.1 25 ((36 : Int32) + x4).toNatClampNeg) x3 σ1) fun r_20 σ_20 =>
      (FX11_digest_186 L k38 n) ((x1 * (31 : Int64)) + r_20) x3 (x4 + (1 : Int32)) σ_20
def FX11_digest_144 (L : Nat) (k38 : Int64 → Int32 → MS → Option (Int64 × MS)) : Nat → Int64 → Int32 → Int32 → MS → Option (Int64 × MS)
  | 0, _, _, _, _ => none
  | n+1, x1, x3, x4, σ1 =>
    if ((1 : Int32) < 0 ∨ 4 ≤ (1 : Int32).toNatClampNeg) then none else
    if (σ1.2.1 23 (1 : Int32).toNatClampNeg) ≤ x4 then
      FX11_digest_186 L k38 L x1 x3 (0 : Int32) σ1
    else
      if (((12 : Int32) + x4) < 0 ∨ 48 ≤ ((12 : Int32) + x4).toNatClampNeg) then none else
      b2 (FX11_at (σ1.2.1 25 ((12 : Int32) + x4).toNatClampNeg) x3 σ1) fun r_22 σ_22 =>
      (FX11_digest_144 L k38 n) ((x1 * (31 : Int64)) + r_22) x3 (x4 + (1 : Int32)) σ_22
def FX11_digest_102 (L : Nat) (k38 : Int64 → Int32 → MS → Option (Int64 × MS)) : Nat → Int64 → Int32 → Int32 → MS → Option (Int64 × MS)
  | 0, _, _, _, _ => none
  | n+1, x1, x3, x4, σ1 =>
    if ((2 : Int32) < 0 ∨ 4 ≤ (2 : Int32).toNatClampNeg) then none else
    if (σ1.2.1 23 (2 : Int32).toNatClampNeg) ≤ x4 then
      FX11_digest_144 L k38 L x1 x3 (0 : Int32) σ1
    else
      if (((24 : Int32) + x4) < 0 ∨ 48 ≤ ((24 : Int32) + x4).toNatClampNeg) then none else
      b2 (FX11_at (σ1.2.1 25 ((24 : Int32) + x4).toNatClampNeg) x3 σ1) fun r_24 σ_24 =>
      (FX11_digest_102 L k38 n) ((x1 * (31 : Int64)) + r_24) x3 (x4 + (1 : Int32)) σ_24
def FX11_digest_63 (L : Nat) (k38 : Int64 → Int32 → MS → Option (Int64 × MS)) : Nat → Int64 → Int32 → Int32 → MS → Option (Int64 × MS)
  | 0, _, _, _, _ => none
  | n+1, x1, x3, x4, σ1 =>
    if ((0 : Int32) < 0 ∨ 4 ≤ (0 : Int32).toNatClampNeg) then none else
    if (σ1.2.1 23 (0 : Int32).toNatClampNeg) ≤ x4 then
      FX11_digest_102 L k38 L x1 x3 (0 : Int32) σ1
    else
      if ((((8 : Int32) * x3) + x4) < 0 ∨ 960 ≤ (((8 : Int32) * x3) + x4).toNatClampNeg) then none else
      (FX11_digest_63 L k38 n) ((x1 * (31 : Int64)) + (σ1.2.2 31 (((8 : Int32) * x3) + x4).toNatClampNeg)) x3 (x4 + (1 : Int32)) σ1
def FX11_digest_38 (L : Nat)  : Nat → Int64 → Int32 → MS → Option (Int64 × MS)
  | 0, _, _, _ => none
  | n+1, x1, x3, σ1 =>
    if (σ1.1 29) ≤ x3 then
      FX11_digest_233 L L x1 (0 : Int32) σ1
    else
      if (x3 < 0 ∨ 120 ≤ x3.toNatClampNeg) then none else
      FX11_digest_63 L (FX11_digest_38 L n) L ((x1 * (31 : Int64)) + ((σ1.2.1 30 x3.toNatClampNeg).toInt64)) x3 (0 : Int32) σ1
def FX11_digest_11 (L : Nat)  : Nat → Int64 → Int32 → MS → Option (Int64 × MS)
  | 0, _, _, _ => none
  | n+1, x1, x3, σ1 =>
    if (7 : Int32) ≤ x3 then
      FX11_digest_38 L L x1 (0 : Int32) σ1
    else
      b2 (FX11_counted x3 σ1) fun r_26 σ_26 =>
      (FX11_digest_11 L n) ((x1 * (31 : Int64)) + r_26.toInt64) (x3 + (1 : Int32)) σ_26
def FX11_digest (L : Nat)  (σ : MS) : Option (Int64 × MS) :=
  FX11_digest_11 L L (383 : Int64) (0 : Int32) (sI σ 0 (0 : Int32))
abbrev rmX11_digest : Room := { frames := 4, cells := 0, slots := 0, locals := 94 }
set_option maxRecDepth 100000 in
set_option maxHeartbeats 4000000 in
theorem kX11_digest {l : Launch} {D : va_G} {cI cJ : ClassId} {ad : Nat → Nat} {KS : (Nat → Prop) → State → Prop} {L : Nat} (hc : gC KS)  {σ σ' : MS} {r : Int64} (h : FX11_digest L  σ = some (r, σ')) : gMet l yX11_digest qX11_digest rmX11_digest 0 0 D vwCl [(cI, .int), (cJ, .long)] KS [.ref (ad 0)] (MW cI cJ ad σ) (MW cI cJ ad σ') (some (.long r)) := by
  refine gMet.of (cc := cX11_digest) (maxL := 5) (ret := (some .long)) (by decide) rfl (Nat.le_of_ble_eq_true rfl) ?_
  intro p e s m args below meth c S hr hlk hnm hK hKS hA hB ls hl
  have hl : lv_has ls 5 [(0, .ref (ad 0))] := hl
  replace S : CallFix p m c cX11_digest 5 s args (_ :: wsL_law) RX11 := S
  rw [FX11_digest] at h
  have P281 : ∀  (n : Nat), ∀ (x1 : Int64) (x3 : Int32) (σ1 : MS) (H : Heap) (locs : List Loc) (ls : Array Slot), FX11_digest_281 L n x1 x3 σ1 = some (r, σ') → gB D vwCl (va_A (MW cI cJ ad σ) s.heap.size) s.heap (MW cI cJ ad σ1) [] H locs → lv_has ls 5 [(0, .ref (ad 0)), (1, .long x1), (3, .int x3)] → W p l e rmX11_digest s m args below meth c H locs 0 0 (MQ below (gQ D vwCl (MW cI cJ ad σ) (MW cI cJ ad σ') (some (.long r)) s.heap.size) args s 0 0 (va_A (MW cI cJ ad σ) s.heap.size)) (F0 m 281 ls []) := by
    intro n
    induction n with
    | zero => intro x1 x3 σ1 H locs ls h; simp only [FX11_digest_281] at h; cases h
    | succ n ih =>
      intro x1 x3 σ1 H locs ls h hB hl
      rw [FX11_digest_281] at h
      refine lv_iload_n S.1 S.2.1 dX11_digest_281 rfl (lv_at hl 2 rfl) ?_
      refine lv_aload_n S.1 S.2.1 dX11_digest_282 rfl (lv_at hl 0 rfl) ?_
      refine mg_many S hK hB wf_X11_61 dX11_digest_283 ?_
      refine lv_iconst (v := (0 : Int32)) S.1 S.2.1 dX11_digest_286 (by decide) ?_
      obtain ⟨b_5, h⟩ := gd h
      refine ml_many (v := (σ1.2.1 23 (0 : Int32).toNatClampNeg)) S hK hB b_5 rfl dX11_digest_287 ?_
      refine lv_icmp_ge (tgt := 310) S.1 S.2.1 dX11_digest_288 (by decide) (fun c_6 => ?_) (fun c_6 => ?_)
      · replace h := (if_pos c_6).symm.trans h
        refine lv_lload_n S.1 S.2.1 dX11_digest_310 rfl (lv_at hl 1 rfl) ?_
        cases h
        exact gRetL S.1 S.2.1 hr hlk hB dX11_digest_311
      · replace h := (if_neg c_6).symm.trans h
        refine lv_lload_n S.1 S.2.1 dX11_digest_291 rfl (lv_at hl 1 rfl) ?_
        refine lv_ldc2 (v := 31) S.1 S.2.1 S.2.2.2.1 (S.2.2.2.2 _ (List.mem_cons_of_mem _ wk_X11_492)) dX11_digest_292 ?_
        refine lv_lmul S.1 S.2.1 dX11_digest_295 ?_
        refine lv_aload_n S.1 S.2.1 dX11_digest_296 rfl (lv_at hl 0 rfl) ?_
        refine mg_now S hK hB wf_X11_82 dX11_digest_297 ?_
        refine lv_iload_n S.1 S.2.1 dX11_digest_300 rfl (lv_at hl 2 rfl) ?_
        obtain ⟨b_7, h⟩ := gd h
        refine ml_now (v := (σ1.2.2 32 x3.toNatClampNeg)) S hK hB b_7 rfl dX11_digest_301 ?_
        refine lv_ladd S.1 S.2.1 dX11_digest_302 ?_
        refine lv_lstore_n (lv' := [(1, .long ((x1 * (31 : Int64)) + (σ1.2.2 32 x3.toNatClampNeg))), (0, .ref (ad 0)), (3, .int x3)]) S.1 S.2.1 dX11_digest_303 rfl hl (by decide) rfl (fun ls hl => ?_)
        refine lv_iinc (v := (x3 + (1 : Int32))) (lv' := [(3, .int (x3 + (1 : Int32))), (1, .long ((x1 * (31 : Int64)) + (σ1.2.2 32 x3.toNatClampNeg))), (0, .ref (ad 0))]) S.1 S.2.1 dX11_digest_304 hl (k := 2) rfl rfl (by decide) rfl (fun ls hl => ?_)
        refine lv_goto (tgt := 281) S.1 S.2.1 dX11_digest_307 (by decide) ?_
        exact ih _ _ _ _ _ _ h hB (lv_sub hl [2, 1, 0] rfl)
  have P246 : ∀ (k233 : Int64 → Int32 → MS → Option (Int64 × MS)) (hk233 : ∀ (x1 : Int64) (x3 : Int32) (σ1 : MS) (H : Heap) (locs : List Loc) (ls : Array Slot), k233 x1 x3 σ1 = some (r, σ') → gB D vwCl (va_A (MW cI cJ ad σ) s.heap.size) s.heap (MW cI cJ ad σ1) [] H locs → lv_has ls 5 [(0, .ref (ad 0)), (1, .long x1), (3, .int x3)] → W p l e rmX11_digest s m args below meth c H locs 0 0 (MQ below (gQ D vwCl (MW cI cJ ad σ) (MW cI cJ ad σ') (some (.long r)) s.heap.size) args s 0 0 (va_A (MW cI cJ ad σ) s.heap.size)) (F0 m 233 ls [])) (n : Nat), ∀ (x1 : Int64) (x3 : Int32) (x4 : Int32) (σ1 : MS) (H : Heap) (locs : List Loc) (ls : Array Slot), FX11_digest_246 L k233 n x1 x3 x4 σ1 = some (r, σ') → gB D vwCl (va_A (MW cI cJ ad σ) s.heap.size) s.heap (MW cI cJ ad σ1) [] H locs → lv_has ls 5 [(0, .ref (ad 0)), (1, .long x1), (3, .int x3), (4, .int x4)] → W p l e rmX11_digest s m args below meth c H locs 0 0 (MQ below (gQ D vwCl (MW cI cJ ad σ) (MW cI cJ ad σ') (some (.long r)) s.heap.size) args s 0 0 (va_A (MW cI cJ ad σ) s.heap.size)) (F0 m 246 ls []) := by
    intro k233 hk233
    intro n
    induction n with
    | zero => intro x1 x3 x4 σ1 H locs ls h; simp only [FX11_digest_246] at h; cases h
    | succ n ih =>
      intro x1 x3 x4 σ1 H locs ls h hB hl
      rw [FX11_digest_246] at h
      refine lv_iload S.1 S.2.1 dX11_digest_246 (lv_at hl 3 rfl) ?_
      refine lv_iconst (v := (5 : Int32)) S.1 S.2.1 dX11_digest_248 (by decide) ?_
      refine lv_icmp_ge (tgt := 273) S.1 S.2.1 dX11_digest_249 (by decide) (fun c_8 => ?_) (fun c_8 => ?_)
      · replace h := (if_pos c_8).symm.trans h
        refine lv_iinc (v := (x3 + (1 : Int32))) (lv' := [(3, .int (x3 + (1 : Int32))), (0, .ref (ad 0)), (1, .long x1), (4, .int x4)]) S.1 S.2.1 dX11_digest_273 hl (k := 2) rfl rfl (by decide) rfl (fun ls hl => ?_)
        refine lv_goto (tgt := 233) S.1 S.2.1 dX11_digest_276 (by decide) ?_
        exact hk233 _ _ _ _ _ _ h hB (lv_sub hl [1, 2, 0] rfl)
      · replace h := (if_neg c_8).symm.trans h
        refine lv_lload_n S.1 S.2.1 dX11_digest_252 rfl (lv_at hl 1 rfl) ?_
        refine lv_ldc2 (v := 31) S.1 S.2.1 S.2.2.2.1 (S.2.2.2.2 _ (List.mem_cons_of_mem _ wk_X11_492)) dX11_digest_253 ?_
        refine lv_lmul S.1 S.2.1 dX11_digest_256 ?_
        refine lv_aload_n S.1 S.2.1 dX11_digest_257 rfl (lv_at hl 0 rfl) ?_
        refine lv_iload_n S.1 S.2.1 dX11_digest_258 rfl (lv_at hl 2 rfl) ?_
        refine lv_iload S.1 S.2.1 dX11_digest_259 (lv_at hl 3 rfl) ?_
        obtain ⟨r_9, σ_9, e_9, h⟩ := b2s h
        refine mCallI S hK hc hKS hA (kX11_toldOf hc e_9) (cwX11_468 S.2.2.2.2 (rm := rmX11_toldOf) rfl rfl ⟨Nat.le_of_ble_eq_true rfl, Nat.le_of_ble_eq_true rfl⟩) hB rfl hl.1 rfl (lv_room (Nat.le_of_ble_eq_true rfl)) dX11_digest_261 ⟨Nat.zero_le _, Nat.zero_le _⟩ (fun H locs hB => ?_)
        refine lv_i2l (v := r_9.toInt64) S.1 S.2.1 dX11_digest_264 rfl ?_
        refine lv_ladd S.1 S.2.1 dX11_digest_265 ?_
        refine lv_lstore_n (lv' := [(1, .long ((x1 * (31 : Int64)) + r_9.toInt64)), (0, .ref (ad 0)), (3, .int x3), (4, .int x4)]) S.1 S.2.1 dX11_digest_266 rfl hl (by decide) rfl (fun ls hl => ?_)
        refine lv_iinc (v := (x4 + (1 : Int32))) (lv' := [(4, .int (x4 + (1 : Int32))), (1, .long ((x1 * (31 : Int64)) + r_9.toInt64)), (0, .ref (ad 0)), (3, .int x3)]) S.1 S.2.1 dX11_digest_267 hl (k := 3) rfl rfl (by decide) rfl (fun ls hl => ?_)
        refine lv_goto (tgt := 246) S.1 S.2.1 dX11_digest_270 (by decide) ?_
        exact ih _ _ _ _ _ _ _ h hB (lv_sub hl [2, 1, 3, 0] rfl)
  have P233 : ∀  (n : Nat), ∀ (x1 : Int64) (x3 : Int32) (σ1 : MS) (H : Heap) (locs : List Loc) (ls : Array Slot), FX11_digest_233 L n x1 x3 σ1 = some (r, σ') → gB D vwCl (va_A (MW cI cJ ad σ) s.heap.size) s.heap (MW cI cJ ad σ1) [] H locs → lv_has ls 5 [(0, .ref (ad 0)), (1, .long x1), (3, .int x3)] → W p l e rmX11_digest s m args below meth c H locs 0 0 (MQ below (gQ D vwCl (MW cI cJ ad σ) (MW cI cJ ad σ') (some (.long r)) s.heap.size) args s 0 0 (va_A (MW cI cJ ad σ) s.heap.size)) (F0 m 233 ls []) := by
    intro n
    induction n with
    | zero => intro x1 x3 σ1 H locs ls h; simp only [FX11_digest_233] at h; cases h
    | succ n ih =>
      intro x1 x3 σ1 H locs ls h hB hl
      rw [FX11_digest_233] at h
      refine lv_iload_n S.1 S.2.1 dX11_digest_233 rfl (lv_at hl 2 rfl) ?_
      refine lv_aload_n S.1 S.2.1 dX11_digest_234 rfl (lv_at hl 0 rfl) ?_
      refine mg_many S hK hB wf_X11_61 dX11_digest_235 ?_
      refine lv_iconst (v := (3 : Int32)) S.1 S.2.1 dX11_digest_238 (by decide) ?_
      obtain ⟨b_3, h⟩ := gd h
      refine ml_many (v := (σ1.2.1 23 (3 : Int32).toNatClampNeg)) S hK hB b_3 rfl dX11_digest_239 ?_
      refine lv_icmp_ge (tgt := 279) S.1 S.2.1 dX11_digest_240 (by decide) (fun c_4 => ?_) (fun c_4 => ?_)
      · replace h := (if_pos c_4).symm.trans h
        refine lv_iconst (v := (0 : Int32)) S.1 S.2.1 dX11_digest_279 (by decide) ?_
        refine lv_istore_n (lv' := [(3, .int (0 : Int32)), (0, .ref (ad 0)), (1, .long x1)]) S.1 S.2.1 dX11_digest_280 rfl hl (by decide) rfl (fun ls hl => ?_)
        exact P281  L _ _ _ _ _ _ h hB (lv_sub hl [1, 2, 0] rfl)
      · replace h := (if_neg c_4).symm.trans h
        refine lv_iconst (v := (0 : Int32)) S.1 S.2.1 dX11_digest_243 (by decide) ?_
        refine lv_istore (lv' := [(4, .int (0 : Int32)), (0, .ref (ad 0)), (1, .long x1), (3, .int x3)]) S.1 S.2.1 dX11_digest_244 hl (by decide) rfl (fun ls hl => ?_)
        exact P246 (FX11_digest_233 L n) ih L _ _ _ _ _ _ _ h hB (lv_sub hl [1, 2, 3, 0] rfl)
  have P186 : ∀ (k38 : Int64 → Int32 → MS → Option (Int64 × MS)) (hk38 : ∀ (x1 : Int64) (x3 : Int32) (σ1 : MS) (H : Heap) (locs : List Loc) (ls : Array Slot), k38 x1 x3 σ1 = some (r, σ') → gB D vwCl (va_A (MW cI cJ ad σ) s.heap.size) s.heap (MW cI cJ ad σ1) [] H locs → lv_has ls 5 [(0, .ref (ad 0)), (1, .long x1), (3, .int x3)] → W p l e rmX11_digest s m args below meth c H locs 0 0 (MQ below (gQ D vwCl (MW cI cJ ad σ) (MW cI cJ ad σ') (some (.long r)) s.heap.size) args s 0 0 (va_A (MW cI cJ ad σ) s.heap.size)) (F0 m 38 ls [])) (n : Nat), ∀ (x1 : Int64) (x3 : Int32) (x4 : Int32) (σ1 : MS) (H : Heap) (locs : List Loc) (ls : Array Slot), FX11_digest_186 L k38 n x1 x3 x4 σ1 = some (r, σ') → gB D vwCl (va_A (MW cI cJ ad σ) s.heap.size) s.heap (MW cI cJ ad σ1) [] H locs → lv_has ls 5 [(0, .ref (ad 0)), (1, .long x1), (3, .int x3), (4, .int x4)] → W p l e rmX11_digest s m args below meth c H locs 0 0 (MQ below (gQ D vwCl (MW cI cJ ad σ) (MW cI cJ ad σ') (some (.long r)) s.heap.size) args s 0 0 (va_A (MW cI cJ ad σ) s.heap.size)) (F0 m 186 ls []) := by
    intro k38 hk38
    intro n
    induction n with
    | zero => intro x1 x3 x4 σ1 H locs ls h; simp only [FX11_digest_186] at h; cases h
    | succ n ih =>
      intro x1 x3 x4 σ1 H locs ls h hB hl
      rw [FX11_digest_186] at h
      refine lv_iload S.1 S.2.1 dX11_digest_186 (lv_at hl 3 rfl) ?_
      refine lv_aload_n S.1 S.2.1 dX11_digest_188 rfl (lv_at hl 0 rfl) ?_
      refine mg_many S hK hB wf_X11_61 dX11_digest_189 ?_
      refine lv_iconst (v := (3 : Int32)) S.1 S.2.1 dX11_digest_192 (by decide) ?_
      obtain ⟨b_17, h⟩ := gd h
      refine ml_many (v := (σ1.2.1 23 (3 : Int32).toNatClampNeg)) S hK hB b_17 rfl dX11_digest_193 ?_
      refine lv_icmp_ge (tgt := 225) S.1 S.2.1 dX11_digest_194 (by decide) (fun c_18 => ?_) (fun c_18 => ?_)
      · replace h := (if_pos c_18).symm.trans h
        refine lv_iinc (v := (x3 + (1 : Int32))) (lv' := [(3, .int (x3 + (1 : Int32))), (0, .ref (ad 0)), (1, .long x1), (4, .int x4)]) S.1 S.2.1 dX11_digest_225 hl (k := 2) rfl rfl (by decide) rfl (fun ls hl => ?_)
        refine lv_goto (tgt := 38) S.1 S.2.1 dX11_digest_228 (by decide) ?_
        exact hk38 _ _ _ _ _ _ h hB (lv_sub hl [1, 2, 0] rfl)
      · replace h := (if_neg c_18).symm.trans h
        refine lv_lload_n S.1 S.2.1 dX11_digest_197 rfl (lv_at hl 1 rfl) ?_
        refine lv_ldc2 (v := 31) S.1 S.2.1 S.2.2.2.1 (S.2.2.2.2 _ (List.mem_cons_of_mem _ wk_X11_492)) dX11_digest_198 ?_
        refine lv_lmul S.1 S.2.1 dX11_digest_201 ?_
        refine lv_aload_n S.1 S.2.1 dX11_digest_202 rfl (lv_at hl 0 rfl) ?_
        refine lv_aload_n S.1 S.2.1 dX11_digest_203 rfl (lv_at hl 0 rfl) ?_
        refine mg_tops S hK hB wf_X11_67 dX11_digest_204 ?_
        refine lv_bipush (v := (36 : Int32)) S.1 S.2.1 dX11_digest_207 (by decide) ?_
        refine lv_iload S.1 S.2.1 dX11_digest_209 (lv_at hl 3 rfl) ?_
        refine lv_iadd S.1 S.2.1 dX11_digest_211 ?_
        obtain ⟨b_19, h⟩ := gd h
        refine ml_tops (v := (σ1.2.1 25 ((36 : Int32) + x4).toNatClampNeg)) S hK hB b_19 rfl dX11_digest_212 ?_
        refine lv_iload_n S.1 S.2.1 dX11_digest_213 rfl (lv_at hl 2 rfl) ?_
        obtain ⟨r_20, σ_20, e_20, h⟩ := b2s h
        refine mCallL S hK hc hKS hA (kX11_at hc e_20) (cwX11_393 S.2.2.2.2 (rm := rmX11_at) rfl rfl ⟨Nat.le_of_ble_eq_true rfl, Nat.le_of_ble_eq_true rfl⟩) hB rfl hl.1 rfl (lv_room (Nat.le_of_ble_eq_true rfl)) dX11_digest_214 ⟨Nat.zero_le _, Nat.zero_le _⟩ (fun H locs hB => ?_)
        refine lv_ladd S.1 S.2.1 dX11_digest_217 ?_
        refine lv_lstore_n (lv' := [(1, .long ((x1 * (31 : Int64)) + r_20)), (0, .ref (ad 0)), (3, .int x3), (4, .int x4)]) S.1 S.2.1 dX11_digest_218 rfl hl (by decide) rfl (fun ls hl => ?_)
        refine lv_iinc (v := (x4 + (1 : Int32))) (lv' := [(4, .int (x4 + (1 : Int32))), (1, .long ((x1 * (31 : Int64)) + r_20)), (0, .ref (ad 0)), (3, .int x3)]) S.1 S.2.1 dX11_digest_219 hl (k := 3) rfl rfl (by decide) rfl (fun ls hl => ?_)
        refine lv_goto (tgt := 186) S.1 S.2.1 dX11_digest_222 (by decide) ?_
        exact ih _ _ _ _ _ _ _ h hB (lv_sub hl [2, 1, 3, 0] rfl)
  have P144 : ∀ (k38 : Int64 → Int32 → MS → Option (Int64 × MS)) (hk38 : ∀ (x1 : Int64) (x3 : Int32) (σ1 : MS) (H : Heap) (locs : List Loc) (ls : Array Slot), k38 x1 x3 σ1 = some (r, σ') → gB D vwCl (va_A (MW cI cJ ad σ) s.heap.size) s.heap (MW cI cJ ad σ1) [] H locs → lv_has ls 5 [(0, .ref (ad 0)), (1, .long x1), (3, .int x3)] → W p l e rmX11_digest s m args below meth c H locs 0 0 (MQ below (gQ D vwCl (MW cI cJ ad σ) (MW cI cJ ad σ') (some (.long r)) s.heap.size) args s 0 0 (va_A (MW cI cJ ad σ) s.heap.size)) (F0 m 38 ls [])) (n : Nat), ∀ (x1 : Int64) (x3 : Int32) (x4 : Int32) (σ1 : MS) (H : Heap) (locs : List Loc) (ls : Array Slot), FX11_digest_144 L k38 n x1 x3 x4 σ1 = some (r, σ') → gB D vwCl (va_A (MW cI cJ ad σ) s.heap.size) s.heap (MW cI cJ ad σ1) [] H locs → lv_has ls 5 [(0, .ref (ad 0)), (1, .long x1), (3, .int x3), (4, .int x4)] → W p l e rmX11_digest s m args below meth c H locs 0 0 (MQ below (gQ D vwCl (MW cI cJ ad σ) (MW cI cJ ad σ') (some (.long r)) s.heap.size) args s 0 0 (va_A (MW cI cJ ad σ) s.heap.size)) (F0 m 144 ls []) := by
    intro k38 hk38
    intro n
    induction n with
    | zero => intro x1 x3 x4 σ1 H locs ls h; simp only [FX11_digest_144] at h; cases h
    | succ n ih =>
      intro x1 x3 x4 σ1 H locs ls h hB hl
      rw [FX11_digest_144] at h
      refine lv_iload S.1 S.2.1 dX11_digest_144 (lv_at hl 3 rfl) ?_
      refine lv_aload_n S.1 S.2.1 dX11_digest_146 rfl (lv_at hl 0 rfl) ?_
      refine mg_many S hK hB wf_X11_61 dX11_digest_147 ?_
      refine lv_iconst (v := (1 : Int32)) S.1 S.2.1 dX11_digest_150 (by decide) ?_
      obtain ⟨b_15, h⟩ := gd h
      refine ml_many (v := (σ1.2.1 23 (1 : Int32).toNatClampNeg)) S hK hB b_15 rfl dX11_digest_151 ?_
      refine lv_icmp_ge (tgt := 183) S.1 S.2.1 dX11_digest_152 (by decide) (fun c_16 => ?_) (fun c_16 => ?_)
      · replace h := (if_pos c_16).symm.trans h
        refine lv_iconst (v := (0 : Int32)) S.1 S.2.1 dX11_digest_183 (by decide) ?_
        refine lv_istore (lv' := [(4, .int (0 : Int32)), (0, .ref (ad 0)), (1, .long x1), (3, .int x3)]) S.1 S.2.1 dX11_digest_184 hl (by decide) rfl (fun ls hl => ?_)
        exact P186 k38 hk38 L _ _ _ _ _ _ _ h hB (lv_sub hl [1, 2, 3, 0] rfl)
      · replace h := (if_neg c_16).symm.trans h
        refine lv_lload_n S.1 S.2.1 dX11_digest_155 rfl (lv_at hl 1 rfl) ?_
        refine lv_ldc2 (v := 31) S.1 S.2.1 S.2.2.2.1 (S.2.2.2.2 _ (List.mem_cons_of_mem _ wk_X11_492)) dX11_digest_156 ?_
        refine lv_lmul S.1 S.2.1 dX11_digest_159 ?_
        refine lv_aload_n S.1 S.2.1 dX11_digest_160 rfl (lv_at hl 0 rfl) ?_
        refine lv_aload_n S.1 S.2.1 dX11_digest_161 rfl (lv_at hl 0 rfl) ?_
        refine mg_tops S hK hB wf_X11_67 dX11_digest_162 ?_
        refine lv_bipush (v := (12 : Int32)) S.1 S.2.1 dX11_digest_165 (by decide) ?_
        refine lv_iload S.1 S.2.1 dX11_digest_167 (lv_at hl 3 rfl) ?_
        refine lv_iadd S.1 S.2.1 dX11_digest_169 ?_
        obtain ⟨b_21, h⟩ := gd h
        refine ml_tops (v := (σ1.2.1 25 ((12 : Int32) + x4).toNatClampNeg)) S hK hB b_21 rfl dX11_digest_170 ?_
        refine lv_iload_n S.1 S.2.1 dX11_digest_171 rfl (lv_at hl 2 rfl) ?_
        obtain ⟨r_22, σ_22, e_22, h⟩ := b2s h
        refine mCallL S hK hc hKS hA (kX11_at hc e_22) (cwX11_393 S.2.2.2.2 (rm := rmX11_at) rfl rfl ⟨Nat.le_of_ble_eq_true rfl, Nat.le_of_ble_eq_true rfl⟩) hB rfl hl.1 rfl (lv_room (Nat.le_of_ble_eq_true rfl)) dX11_digest_172 ⟨Nat.zero_le _, Nat.zero_le _⟩ (fun H locs hB => ?_)
        refine lv_ladd S.1 S.2.1 dX11_digest_175 ?_
        refine lv_lstore_n (lv' := [(1, .long ((x1 * (31 : Int64)) + r_22)), (0, .ref (ad 0)), (3, .int x3), (4, .int x4)]) S.1 S.2.1 dX11_digest_176 rfl hl (by decide) rfl (fun ls hl => ?_)
        refine lv_iinc (v := (x4 + (1 : Int32))) (lv' := [(4, .int (x4 + (1 : Int32))), (1, .long ((x1 * (31 : Int64)) + r_22)), (0, .ref (ad 0)), (3, .int x3)]) S.1 S.2.1 dX11_digest_177 hl (k := 3) rfl rfl (by decide) rfl (fun ls hl => ?_)
        refine lv_goto (tgt := 144) S.1 S.2.1 dX11_digest_180 (by decide) ?_
        exact ih _ _ _ _ _ _ _ h hB (lv_sub hl [2, 1, 3, 0] rfl)
  have P102 : ∀ (k38 : Int64 → Int32 → MS → Option (Int64 × MS)) (hk38 : ∀ (x1 : Int64) (x3 : Int32) (σ1 : MS) (H : Heap) (locs : List Loc) (ls : Array Slot), k38 x1 x3 σ1 = some (r, σ') → gB D vwCl (va_A (MW cI cJ ad σ) s.heap.size) s.heap (MW cI cJ ad σ1) [] H locs → lv_has ls 5 [(0, .ref (ad 0)), (1, .long x1), (3, .int x3)] → W p l e rmX11_digest s m args below meth c H locs 0 0 (MQ below (gQ D vwCl (MW cI cJ ad σ) (MW cI cJ ad σ') (some (.long r)) s.heap.size) args s 0 0 (va_A (MW cI cJ ad σ) s.heap.size)) (F0 m 38 ls [])) (n : Nat), ∀ (x1 : Int64) (x3 : Int32) (x4 : Int32) (σ1 : MS) (H : Heap) (locs : List Loc) (ls : Array Slot), FX11_digest_102 L k38 n x1 x3 x4 σ1 = some (r, σ') → gB D vwCl (va_A (MW cI cJ ad σ) s.heap.size) s.heap (MW cI cJ ad σ1) [] H locs → lv_has ls 5 [(0, .ref (ad 0)), (1, .long x1), (3, .int x3), (4, .int x4)] → W p l e rmX11_digest s m args below meth c H locs 0 0 (MQ below (gQ D vwCl (MW cI cJ ad σ) (MW cI cJ ad σ') (some (.long r)) s.heap.size) args s 0 0 (va_A (MW cI cJ ad σ) s.heap.size)) (F0 m 102 ls []) := by
    intro k38 hk38
    intro n
    induction n with
    | zero => intro x1 x3 x4 σ1 H locs ls h; simp only [FX11_digest_102] at h; cases h
    | succ n ih =>
      intro x1 x3 x4 σ1 H locs ls h hB hl
      rw [FX11_digest_102] at h
      refine lv_iload S.1 S.2.1 dX11_digest_102 (lv_at hl 3 rfl) ?_
      refine lv_aload_n S.1 S.2.1 dX11_digest_104 rfl (lv_at hl 0 rfl) ?_
      refine mg_many S hK hB wf_X11_61 dX11_digest_105 ?_
      refine lv_iconst (v := (2 : Int32)) S.1 S.2.1 dX11_digest_108 (by decide) ?_
      obtain ⟨b_13, h⟩ := gd h
      refine ml_many (v := (σ1.2.1 23 (2 : Int32).toNatClampNeg)) S hK hB b_13 rfl dX11_digest_109 ?_
      refine lv_icmp_ge (tgt := 141) S.1 S.2.1 dX11_digest_110 (by decide) (fun c_14 => ?_) (fun c_14 => ?_)
      · replace h := (if_pos c_14).symm.trans h
        refine lv_iconst (v := (0 : Int32)) S.1 S.2.1 dX11_digest_141 (by decide) ?_
        refine lv_istore (lv' := [(4, .int (0 : Int32)), (0, .ref (ad 0)), (1, .long x1), (3, .int x3)]) S.1 S.2.1 dX11_digest_142 hl (by decide) rfl (fun ls hl => ?_)
        exact P144 k38 hk38 L _ _ _ _ _ _ _ h hB (lv_sub hl [1, 2, 3, 0] rfl)
      · replace h := (if_neg c_14).symm.trans h
        refine lv_lload_n S.1 S.2.1 dX11_digest_113 rfl (lv_at hl 1 rfl) ?_
        refine lv_ldc2 (v := 31) S.1 S.2.1 S.2.2.2.1 (S.2.2.2.2 _ (List.mem_cons_of_mem _ wk_X11_492)) dX11_digest_114 ?_
        refine lv_lmul S.1 S.2.1 dX11_digest_117 ?_
        refine lv_aload_n S.1 S.2.1 dX11_digest_118 rfl (lv_at hl 0 rfl) ?_
        refine lv_aload_n S.1 S.2.1 dX11_digest_119 rfl (lv_at hl 0 rfl) ?_
        refine mg_tops S hK hB wf_X11_67 dX11_digest_120 ?_
        refine lv_bipush (v := (24 : Int32)) S.1 S.2.1 dX11_digest_123 (by decide) ?_
        refine lv_iload S.1 S.2.1 dX11_digest_125 (lv_at hl 3 rfl) ?_
        refine lv_iadd S.1 S.2.1 dX11_digest_127 ?_
        obtain ⟨b_23, h⟩ := gd h
        refine ml_tops (v := (σ1.2.1 25 ((24 : Int32) + x4).toNatClampNeg)) S hK hB b_23 rfl dX11_digest_128 ?_
        refine lv_iload_n S.1 S.2.1 dX11_digest_129 rfl (lv_at hl 2 rfl) ?_
        obtain ⟨r_24, σ_24, e_24, h⟩ := b2s h
        refine mCallL S hK hc hKS hA (kX11_at hc e_24) (cwX11_393 S.2.2.2.2 (rm := rmX11_at) rfl rfl ⟨Nat.le_of_ble_eq_true rfl, Nat.le_of_ble_eq_true rfl⟩) hB rfl hl.1 rfl (lv_room (Nat.le_of_ble_eq_true rfl)) dX11_digest_130 ⟨Nat.zero_le _, Nat.zero_le _⟩ (fun H locs hB => ?_)
        refine lv_ladd S.1 S.2.1 dX11_digest_133 ?_
        refine lv_lstore_n (lv' := [(1, .long ((x1 * (31 : Int64)) + r_24)), (0, .ref (ad 0)), (3, .int x3), (4, .int x4)]) S.1 S.2.1 dX11_digest_134 rfl hl (by decide) rfl (fun ls hl => ?_)
        refine lv_iinc (v := (x4 + (1 : Int32))) (lv' := [(4, .int (x4 + (1 : Int32))), (1, .long ((x1 * (31 : Int64)) + r_24)), (0, .ref (ad 0)), (3, .int x3)]) S.1 S.2.1 dX11_digest_135 hl (k := 3) rfl rfl (by decide) rfl (fun ls hl => ?_)
        refine lv_goto (tgt := 102) S.1 S.2.1 dX11_digest_138 (by decide) ?_
        exact ih _ _ _ _ _ _ _ h hB (lv_sub hl [2, 1, 3, 0] rfl)
  have P63 : ∀ (k38 : Int64 → Int32 → MS → Option (Int64 × MS)) (hk38 : ∀ (x1 : Int64) (x3 : Int32) (σ1 : MS) (H : Heap) (locs : List Loc) (ls : Array Slot), k38 x1 x3 σ1 = some (r, σ') → gB D vwCl (va_A (MW cI cJ ad σ) s.heap.size) s.heap (MW cI cJ ad σ1) [] H locs → lv_has ls 5 [(0, .ref (ad 0)), (1, .long x1), (3, .int x3)] → W p l e rmX11_digest s m args below meth c H locs 0 0 (MQ below (gQ D vwCl (MW cI cJ ad σ) (MW cI cJ ad σ') (some (.long r)) s.heap.size) args s 0 0 (va_A (MW cI cJ ad σ) s.heap.size)) (F0 m 38 ls [])) (n : Nat), ∀ (x1 : Int64) (x3 : Int32) (x4 : Int32) (σ1 : MS) (H : Heap) (locs : List Loc) (ls : Array Slot), FX11_digest_63 L k38 n x1 x3 x4 σ1 = some (r, σ') → gB D vwCl (va_A (MW cI cJ ad σ) s.heap.size) s.heap (MW cI cJ ad σ1) [] H locs → lv_has ls 5 [(0, .ref (ad 0)), (1, .long x1), (3, .int x3), (4, .int x4)] → W p l e rmX11_digest s m args below meth c H locs 0 0 (MQ below (gQ D vwCl (MW cI cJ ad σ) (MW cI cJ ad σ') (some (.long r)) s.heap.size) args s 0 0 (va_A (MW cI cJ ad σ) s.heap.size)) (F0 m 63 ls []) := by
    intro k38 hk38
    intro n
    induction n with
    | zero => intro x1 x3 x4 σ1 H locs ls h; simp only [FX11_digest_63] at h; cases h
    | succ n ih =>
      intro x1 x3 x4 σ1 H locs ls h hB hl
      rw [FX11_digest_63] at h
      refine lv_iload S.1 S.2.1 dX11_digest_63 (lv_at hl 3 rfl) ?_
      refine lv_aload_n S.1 S.2.1 dX11_digest_65 rfl (lv_at hl 0 rfl) ?_
      refine mg_many S hK hB wf_X11_61 dX11_digest_66 ?_
      refine lv_iconst (v := (0 : Int32)) S.1 S.2.1 dX11_digest_69 (by decide) ?_
      obtain ⟨b_11, h⟩ := gd h
      refine ml_many (v := (σ1.2.1 23 (0 : Int32).toNatClampNeg)) S hK hB b_11 rfl dX11_digest_70 ?_
      refine lv_icmp_ge (tgt := 99) S.1 S.2.1 dX11_digest_71 (by decide) (fun c_12 => ?_) (fun c_12 => ?_)
      · replace h := (if_pos c_12).symm.trans h
        refine lv_iconst (v := (0 : Int32)) S.1 S.2.1 dX11_digest_99 (by decide) ?_
        refine lv_istore (lv' := [(4, .int (0 : Int32)), (0, .ref (ad 0)), (1, .long x1), (3, .int x3)]) S.1 S.2.1 dX11_digest_100 hl (by decide) rfl (fun ls hl => ?_)
        exact P102 k38 hk38 L _ _ _ _ _ _ _ h hB (lv_sub hl [1, 2, 3, 0] rfl)
      · replace h := (if_neg c_12).symm.trans h
        refine lv_lload_n S.1 S.2.1 dX11_digest_74 rfl (lv_at hl 1 rfl) ?_
        refine lv_ldc2 (v := 31) S.1 S.2.1 S.2.2.2.1 (S.2.2.2.2 _ (List.mem_cons_of_mem _ wk_X11_492)) dX11_digest_75 ?_
        refine lv_lmul S.1 S.2.1 dX11_digest_78 ?_
        refine lv_aload_n S.1 S.2.1 dX11_digest_79 rfl (lv_at hl 0 rfl) ?_
        refine mg_signals S hK hB wf_X11_79 dX11_digest_80 ?_
        refine lv_bipush (v := (8 : Int32)) S.1 S.2.1 dX11_digest_83 (by decide) ?_
        refine lv_iload_n S.1 S.2.1 dX11_digest_85 rfl (lv_at hl 2 rfl) ?_
        refine lv_imul S.1 S.2.1 dX11_digest_86 ?_
        refine lv_iload S.1 S.2.1 dX11_digest_87 (lv_at hl 3 rfl) ?_
        refine lv_iadd S.1 S.2.1 dX11_digest_89 ?_
        obtain ⟨b_25, h⟩ := gd h
        refine ml_signals (v := (σ1.2.2 31 (((8 : Int32) * x3) + x4).toNatClampNeg)) S hK hB b_25 rfl dX11_digest_90 ?_
        refine lv_ladd S.1 S.2.1 dX11_digest_91 ?_
        refine lv_lstore_n (lv' := [(1, .long ((x1 * (31 : Int64)) + (σ1.2.2 31 (((8 : Int32) * x3) + x4).toNatClampNeg))), (0, .ref (ad 0)), (3, .int x3), (4, .int x4)]) S.1 S.2.1 dX11_digest_92 rfl hl (by decide) rfl (fun ls hl => ?_)
        refine lv_iinc (v := (x4 + (1 : Int32))) (lv' := [(4, .int (x4 + (1 : Int32))), (1, .long ((x1 * (31 : Int64)) + (σ1.2.2 31 (((8 : Int32) * x3) + x4).toNatClampNeg))), (0, .ref (ad 0)), (3, .int x3)]) S.1 S.2.1 dX11_digest_93 hl (k := 3) rfl rfl (by decide) rfl (fun ls hl => ?_)
        refine lv_goto (tgt := 63) S.1 S.2.1 dX11_digest_96 (by decide) ?_
        exact ih _ _ _ _ _ _ _ h hB (lv_sub hl [2, 1, 3, 0] rfl)
  have P38 : ∀  (n : Nat), ∀ (x1 : Int64) (x3 : Int32) (σ1 : MS) (H : Heap) (locs : List Loc) (ls : Array Slot), FX11_digest_38 L n x1 x3 σ1 = some (r, σ') → gB D vwCl (va_A (MW cI cJ ad σ) s.heap.size) s.heap (MW cI cJ ad σ1) [] H locs → lv_has ls 5 [(0, .ref (ad 0)), (1, .long x1), (3, .int x3)] → W p l e rmX11_digest s m args below meth c H locs 0 0 (MQ below (gQ D vwCl (MW cI cJ ad σ) (MW cI cJ ad σ') (some (.long r)) s.heap.size) args s 0 0 (va_A (MW cI cJ ad σ) s.heap.size)) (F0 m 38 ls []) := by
    intro n
    induction n with
    | zero => intro x1 x3 σ1 H locs ls h; simp only [FX11_digest_38] at h; cases h
    | succ n ih =>
      intro x1 x3 σ1 H locs ls h hB hl
      rw [FX11_digest_38] at h
      refine lv_iload_n S.1 S.2.1 dX11_digest_38 rfl (lv_at hl 2 rfl) ?_
      refine lv_aload_n S.1 S.2.1 dX11_digest_39 rfl (lv_at hl 0 rfl) ?_
      refine mg_steps S hK hB wf_X11_369 rfl dX11_digest_40 ?_
      refine lv_icmp_ge (tgt := 231) S.1 S.2.1 dX11_digest_43 (by decide) (fun c_2 => ?_) (fun c_2 => ?_)
      · replace h := (if_pos c_2).symm.trans h
        refine lv_iconst (v := (0 : Int32)) S.1 S.2.1 dX11_digest_231 (by decide) ?_
        refine lv_istore_n (lv' := [(3, .int (0 : Int32)), (0, .ref (ad 0)), (1, .long x1)]) S.1 S.2.1 dX11_digest_232 rfl hl (by decide) rfl (fun ls hl => ?_)
        exact P233  L _ _ _ _ _ _ h hB (lv_sub hl [1, 2, 0] rfl)
      · replace h := (if_neg c_2).symm.trans h
        refine lv_lload_n S.1 S.2.1 dX11_digest_46 rfl (lv_at hl 1 rfl) ?_
        refine lv_ldc2 (v := 31) S.1 S.2.1 S.2.2.2.1 (S.2.2.2.2 _ (List.mem_cons_of_mem _ wk_X11_492)) dX11_digest_47 ?_
        refine lv_lmul S.1 S.2.1 dX11_digest_50 ?_
        refine lv_aload_n S.1 S.2.1 dX11_digest_51 rfl (lv_at hl 0 rfl) ?_
        refine mg_times S hK hB wf_X11_76 dX11_digest_52 ?_
        refine lv_iload_n S.1 S.2.1 dX11_digest_55 rfl (lv_at hl 2 rfl) ?_
        obtain ⟨b_10, h⟩ := gd h
        refine ml_times (v := (σ1.2.1 30 x3.toNatClampNeg)) S hK hB b_10 rfl dX11_digest_56 ?_
        refine lv_i2l (v := ((σ1.2.1 30 x3.toNatClampNeg).toInt64)) S.1 S.2.1 dX11_digest_57 rfl ?_
        refine lv_ladd S.1 S.2.1 dX11_digest_58 ?_
        refine lv_lstore_n (lv' := [(1, .long ((x1 * (31 : Int64)) + ((σ1.2.1 30 x3.toNatClampNeg).toInt64))), (0, .ref (ad 0)), (3, .int x3)]) S.1 S.2.1 dX11_digest_59 rfl hl (by decide) rfl (fun ls hl => ?_)
        refine lv_iconst (v := (0 : Int32)) S.1 S.2.1 dX11_digest_60 (by decide) ?_
        refine lv_istore (lv' := [(4, .int (0 : Int32)), (1, .long ((x1 * (31 : Int64)) + ((σ1.2.1 30 x3.toNatClampNeg).toInt64))), (0, .ref (ad 0)), (3, .int x3)]) S.1 S.2.1 dX11_digest_61 hl (by decide) rfl (fun ls hl => ?_)
        exact P63 (FX11_digest_38 L n) ih L _ _ _ _ _ _ _ h hB (lv_sub hl [2, 1, 3, 0] rfl)
  have P11 : ∀  (n : Nat), ∀ (x1 : Int64) (x3 : Int32) (σ1 : MS) (H : Heap) (locs : List Loc) (ls : Array Slot), FX11_digest_11 L n x1 x3 σ1 = some (r, σ') → gB D vwCl (va_A (MW cI cJ ad σ) s.heap.size) s.heap (MW cI cJ ad σ1) [] H locs → lv_has ls 5 [(0, .ref (ad 0)), (1, .long x1), (3, .int x3)] → W p l e rmX11_digest s m args below meth c H locs 0 0 (MQ below (gQ D vwCl (MW cI cJ ad σ) (MW cI cJ ad σ') (some (.long r)) s.heap.size) args s 0 0 (va_A (MW cI cJ ad σ) s.heap.size)) (F0 m 11 ls []) := by
    intro n
    induction n with
    | zero => intro x1 x3 σ1 H locs ls h; simp only [FX11_digest_11] at h; cases h
    | succ n ih =>
      intro x1 x3 σ1 H locs ls h hB hl
      rw [FX11_digest_11] at h
      refine lv_iload_n S.1 S.2.1 dX11_digest_11 rfl (lv_at hl 2 rfl) ?_
      refine lv_bipush (v := (7 : Int32)) S.1 S.2.1 dX11_digest_12 (by decide) ?_
      refine lv_icmp_ge (tgt := 36) S.1 S.2.1 dX11_digest_14 (by decide) (fun c_1 => ?_) (fun c_1 => ?_)
      · replace h := (if_pos c_1).symm.trans h
        refine lv_iconst (v := (0 : Int32)) S.1 S.2.1 dX11_digest_36 (by decide) ?_
        refine lv_istore_n (lv' := [(3, .int (0 : Int32)), (0, .ref (ad 0)), (1, .long x1)]) S.1 S.2.1 dX11_digest_37 rfl hl (by decide) rfl (fun ls hl => ?_)
        exact P38  L _ _ _ _ _ _ h hB (lv_sub hl [1, 2, 0] rfl)
      · replace h := (if_neg c_1).symm.trans h
        refine lv_lload_n S.1 S.2.1 dX11_digest_17 rfl (lv_at hl 1 rfl) ?_
        refine lv_ldc2 (v := 31) S.1 S.2.1 S.2.2.2.1 (S.2.2.2.2 _ (List.mem_cons_of_mem _ wk_X11_492)) dX11_digest_18 ?_
        refine lv_lmul S.1 S.2.1 dX11_digest_21 ?_
        refine lv_aload_n S.1 S.2.1 dX11_digest_22 rfl (lv_at hl 0 rfl) ?_
        refine lv_iload_n S.1 S.2.1 dX11_digest_23 rfl (lv_at hl 2 rfl) ?_
        obtain ⟨r_26, σ_26, e_26, h⟩ := b2s h
        refine mCallI S hK hc hKS hA (kX11_counted hc e_26) (cwX11_390 S.2.2.2.2 (rm := rmX11_counted) rfl rfl ⟨Nat.le_of_ble_eq_true rfl, Nat.le_of_ble_eq_true rfl⟩) hB rfl hl.1 rfl (lv_room (Nat.le_of_ble_eq_true rfl)) dX11_digest_24 ⟨Nat.zero_le _, Nat.zero_le _⟩ (fun H locs hB => ?_)
        refine lv_i2l (v := r_26.toInt64) S.1 S.2.1 dX11_digest_27 rfl ?_
        refine lv_ladd S.1 S.2.1 dX11_digest_28 ?_
        refine lv_lstore_n (lv' := [(1, .long ((x1 * (31 : Int64)) + r_26.toInt64)), (0, .ref (ad 0)), (3, .int x3)]) S.1 S.2.1 dX11_digest_29 rfl hl (by decide) rfl (fun ls hl => ?_)
        refine lv_iinc (v := (x3 + (1 : Int32))) (lv' := [(3, .int (x3 + (1 : Int32))), (1, .long ((x1 * (31 : Int64)) + r_26.toInt64)), (0, .ref (ad 0))]) S.1 S.2.1 dX11_digest_30 hl (k := 2) rfl rfl (by decide) rfl (fun ls hl => ?_)
        refine lv_goto (tgt := 11) S.1 S.2.1 dX11_digest_33 (by decide) ?_
        exact ih _ _ _ _ _ _ h hB (lv_sub hl [2, 1, 0] rfl)
  refine lv_aload_n S.1 S.2.1 dX11_digest_0 rfl (lv_at hl 0 rfl) ?_
  refine lv_iconst (v := (0 : Int32)) S.1 S.2.1 dX11_digest_1 (by decide) ?_
  refine mp_thrown S hK hB wf_X11_91 dX11_digest_2 (fun H locs hB => ?_)
  refine lv_ldc2 (v := 383) S.1 S.2.1 S.2.2.2.1 (S.2.2.2.2 _ (List.mem_cons_of_mem _ wk_X11_490)) dX11_digest_5 ?_
  refine lv_lstore_n (lv' := [(1, .long (383 : Int64)), (0, .ref (ad 0))]) S.1 S.2.1 dX11_digest_8 rfl hl (by decide) rfl (fun ls hl => ?_)
  refine lv_iconst (v := (0 : Int32)) S.1 S.2.1 dX11_digest_9 (by decide) ?_
  refine lv_istore_n (lv' := [(3, .int (0 : Int32)), (1, .long (383 : Int64)), (0, .ref (ad 0))]) S.1 S.2.1 dX11_digest_10 rfl hl (by decide) rfl (fun ls hl => ?_)
  exact P11  L _ _ _ _ _ _ h hB (lv_sub hl [2, 1, 0] rfl)
def FX11_find_4 (L : Nat)  : Nat → Int32 → Int32 → Int32 → MS → Option (Int32 × MS)
  | 0, _, _, _, _ => none
  | n+1, x1, x2, x3, σ1 =>
    if (σ1.1 19) ≤ x3 then
      some (x2, σ1)
    else
      if (x3 < 0 ∨ 44 ≤ x3.toNatClampNeg) then none else
      b2 (FX11_nameOf L x1 σ1) fun r_3 σ_3 =>
      if (σ1.2.2 20 x3.toNatClampNeg) = r_3 then
        (FX11_find_4 L n) x1 x3 (x3 + (1 : Int32)) σ_3
      else
        (FX11_find_4 L n) x1 x2 (x3 + (1 : Int32)) σ_3
def FX11_find (L : Nat) (p0 : Int32) (σ : MS) : Option (Int32 × MS) :=
  FX11_find_4 L L p0 (-1 : Int32) (0 : Int32) σ
abbrev rmX11_find : Room := { frames := 3, cells := 0, slots := 0, locals := 66 }
set_option maxRecDepth 100000 in
set_option maxHeartbeats 4000000 in
theorem kX11_find {l : Launch} {D : va_G} {cI cJ : ClassId} {ad : Nat → Nat} {KS : (Nat → Prop) → State → Prop} {L : Nat} (hc : gC KS) {p0 : Int32} {σ σ' : MS} {r : Int32} (h : FX11_find L p0 σ = some (r, σ')) : gMet l yX11_find qX11_find rmX11_find 0 0 D vwCl [(cI, .int), (cJ, .long)] KS [.ref (ad 0), .int p0] (MW cI cJ ad σ) (MW cI cJ ad σ') (some (.int r)) := by
  refine gMet.of (cc := cX11_find) (maxL := 4) (ret := (some .int)) (by decide) rfl (Nat.le_of_ble_eq_true rfl) ?_
  intro p e s m args below meth c S hr hlk hnm hK hKS hA hB ls hl
  have hl : lv_has ls 4 [(0, .ref (ad 0)), (1, .int p0)] := hl
  replace S : CallFix p m c cX11_find 4 s args (_ :: wsL_law) RX11 := S
  rw [FX11_find] at h
  have P4 : ∀  (n : Nat), ∀ (x1 : Int32) (x2 : Int32) (x3 : Int32) (σ1 : MS) (H : Heap) (locs : List Loc) (ls : Array Slot), FX11_find_4 L n x1 x2 x3 σ1 = some (r, σ') → gB D vwCl (va_A (MW cI cJ ad σ) s.heap.size) s.heap (MW cI cJ ad σ1) [] H locs → lv_has ls 4 [(0, .ref (ad 0)), (1, .int x1), (2, .int x2), (3, .int x3)] → W p l e rmX11_find s m args below meth c H locs 0 0 (MQ below (gQ D vwCl (MW cI cJ ad σ) (MW cI cJ ad σ') (some (.int r)) s.heap.size) args s 0 0 (va_A (MW cI cJ ad σ) s.heap.size)) (F0 m 4 ls []) := by
    intro n
    induction n with
    | zero => intro x1 x2 x3 σ1 H locs ls h; simp only [FX11_find_4] at h; cases h
    | succ n ih =>
      intro x1 x2 x3 σ1 H locs ls h hB hl
      rw [FX11_find_4] at h
      refine lv_iload_n S.1 S.2.1 dX11_find_4 rfl (lv_at hl 3 rfl) ?_
      refine lv_aload_n S.1 S.2.1 dX11_find_5 rfl (lv_at hl 0 rfl) ?_
      refine mg_named S hK hB wf_X11_284 rfl dX11_find_6 ?_
      refine lv_icmp_ge (tgt := 35) S.1 S.2.1 dX11_find_9 (by decide) (fun c_1 => ?_) (fun c_1 => ?_)
      · replace h := (if_pos c_1).symm.trans h
        refine lv_iload_n S.1 S.2.1 dX11_find_35 rfl (lv_at hl 2 rfl) ?_
        cases h
        exact gRetI S.1 S.2.1 hr hlk hB dX11_find_36
      · replace h := (if_neg c_1).symm.trans h
        refine lv_aload_n S.1 S.2.1 dX11_find_12 rfl (lv_at hl 0 rfl) ?_
        refine mg_names S hK hB wf_X11_52 dX11_find_13 ?_
        refine lv_iload_n S.1 S.2.1 dX11_find_16 rfl (lv_at hl 3 rfl) ?_
        obtain ⟨b_2, h⟩ := gd h
        refine ml_names (v := (σ1.2.2 20 x3.toNatClampNeg)) S hK hB b_2 rfl dX11_find_17 ?_
        refine lv_aload_n S.1 S.2.1 dX11_find_18 rfl (lv_at hl 0 rfl) ?_
        refine lv_iload_n S.1 S.2.1 dX11_find_19 rfl (lv_at hl 1 rfl) ?_
        obtain ⟨r_3, σ_3, e_3, h⟩ := b2s h
        refine mCallL S hK hc hKS hA (kX11_nameOf hc e_3) (cwX11_287 S.2.2.2.2 (rm := rmX11_nameOf) rfl rfl ⟨Nat.le_of_ble_eq_true rfl, Nat.le_of_ble_eq_true rfl⟩) hB rfl hl.1 rfl (lv_room (Nat.le_of_ble_eq_true rfl)) dX11_find_20 ⟨Nat.zero_le _, Nat.zero_le _⟩ (fun H locs hB => ?_)
        refine W.lcmp S.1 S.2.1 dX11_find_23 ?_
        refine lv_if_ne (tgt := 29) S.1 S.2.1 dX11_find_24 (by decide) (fun c_4 => ?_) (fun c_4 => ?_)
        · replace c_4 := (not_congr lc_eq).mp c_4
          replace h := (if_neg c_4).symm.trans h
          refine lv_iinc (v := (x3 + (1 : Int32))) (lv' := [(3, .int (x3 + (1 : Int32))), (0, .ref (ad 0)), (1, .int x1), (2, .int x2)]) S.1 S.2.1 dX11_find_29 hl (k := 3) rfl rfl (by decide) rfl (fun ls hl => ?_)
          refine lv_goto (tgt := 4) S.1 S.2.1 dX11_find_32 (by decide) ?_
          exact ih _ _ _ _ _ _ _ h hB (lv_sub hl [1, 2, 3, 0] rfl)
        · replace c_4 := lc_eq.mp c_4
          replace h := (if_pos c_4).symm.trans h
          refine lv_iload_n S.1 S.2.1 dX11_find_27 rfl (lv_at hl 3 rfl) ?_
          refine lv_istore_n (lv' := [(2, .int x3), (0, .ref (ad 0)), (1, .int x1), (3, .int x3)]) S.1 S.2.1 dX11_find_28 rfl hl (by decide) rfl (fun ls hl => ?_)
          refine lv_iinc (v := (x3 + (1 : Int32))) (lv' := [(3, .int (x3 + (1 : Int32))), (2, .int x3), (0, .ref (ad 0)), (1, .int x1)]) S.1 S.2.1 dX11_find_29 hl (k := 3) rfl rfl (by decide) rfl (fun ls hl => ?_)
          refine lv_goto (tgt := 4) S.1 S.2.1 dX11_find_32 (by decide) ?_
          exact ih _ _ _ _ _ _ _ h hB (lv_sub hl [2, 3, 1, 0] rfl)
  refine lv_iconst (v := (-1 : Int32)) S.1 S.2.1 dX11_find_0 (by decide) ?_
  refine lv_istore_n (lv' := [(2, .int (-1 : Int32)), (0, .ref (ad 0)), (1, .int p0)]) S.1 S.2.1 dX11_find_1 rfl hl (by decide) rfl (fun ls hl => ?_)
  refine lv_iconst (v := (0 : Int32)) S.1 S.2.1 dX11_find_2 (by decide) ?_
  refine lv_istore_n (lv' := [(3, .int (0 : Int32)), (2, .int (-1 : Int32)), (0, .ref (ad 0)), (1, .int p0)]) S.1 S.2.1 dX11_find_3 rfl hl (by decide) rfl (fun ls hl => ?_)
  exact P4  L _ _ _ _ _ _ _ h hB (lv_sub hl [2, 3, 1, 0] rfl)
def FX11_moveQuestion_9 (L : Nat)  : Nat → Int32 → Int32 → Int32 → MS → Option (Int32 × MS)
  | 0, _, _, _, _ => none
  | n+1, x1, x2, x3, σ1 =>
    if (σ1.1 8) ≤ x3 then
      some (((σ1.1 17) - x2), (sI σ1 8 ((σ1.1 8) - x2)))
    else
      if (x3 < 0 ∨ 1203 ≤ x3.toNatClampNeg) then none else
      if ((x3 - x2) < 0 ∨ 1203 ≤ (x3 - x2).toNatClampNeg) then none else
      if (x3 < 0 ∨ 1203 ≤ x3.toNatClampNeg) then none else
      if (x3 < 0 ∨ 1203 ≤ x3.toNatClampNeg) then none else
      (FX11_isPart ((upd (σ1.2.1 9) (x3 - x2).toNatClampNeg (σ1.2.1 9 x3.toNatClampNeg)) x3.toNatClampNeg) (1 : Int32)).bind fun r_6 =>
      (FX11_moved (σ1.2.1 10 x3.toNatClampNeg) x1 x2 r_6).bind fun r_7 =>
      if ((x3 - x2) < 0 ∨ 1203 ≤ (x3 - x2).toNatClampNeg) then none else
      if (x3 < 0 ∨ 1203 ≤ x3.toNatClampNeg) then none else
      if (x3 < 0 ∨ 1203 ≤ x3.toNatClampNeg) then none else
      (FX11_isPart ((upd (σ1.2.1 9) (x3 - x2).toNatClampNeg (σ1.2.1 9 x3.toNatClampNeg)) x3.toNatClampNeg) (2 : Int32)).bind fun r_11 =>
      (FX11_moved (σ1.2.1 11 x3.toNatClampNeg) x1 x2 r_11).bind fun r_12 =>
      if ((x3 - x2) < 0 ∨ 1203 ≤ (x3 - x2).toNatClampNeg) then none else
      if (x3 < 0 ∨ 1203 ≤ x3.toNatClampNeg) then none else
      if (x3 < 0 ∨ 1203 ≤ x3.toNatClampNeg) then none else
      (FX11_isPart ((upd (σ1.2.1 9) (x3 - x2).toNatClampNeg (σ1.2.1 9 x3.toNatClampNeg)) x3.toNatClampNeg) (3 : Int32)).bind fun r_16 =>
      (FX11_moved (σ1.2.1 12 x3.toNatClampNeg) x1 x2 r_16).bind fun r_17 =>
      if ((x3 - x2) < 0 ∨ 1203 ≤ (x3 - x2).toNatClampNeg) then none else
      if (x3 < 0 ∨ 1203 ≤ x3.toNatClampNeg) then none else
      if ((x3 - x2) < 0 ∨ 1203 ≤ (x3 - x2).toNatClampNeg) then none else
      if (x3 < 0 ∨ 1203 ≤ x3.toNatClampNeg) then none else
      if ((x3 - x2) < 0 ∨ 1203 ≤ (x3 - x2).toNatClampNeg) then none else
      if (x3 < 0 ∨ 1203 ≤ x3.toNatClampNeg) then none else
      if ((x3 - x2) < 0 ∨ 1203 ≤ (x3 - x2).toNatClampNeg) then none else
      (FX11_moveQuestion_9 L n) x1 x2 (x3 + (1 : Int32)) (sA (sA (sA (sA (sA (sA (sA σ1 9 (upd (σ1.2.1 9) (x3 - x2).toNatClampNeg (σ1.2.1 9 x3.toNatClampNeg))) 10 (upd (σ1.2.1 10) (x3 - x2).toNatClampNeg r_7)) 11 (upd (σ1.2.1 11) (x3 - x2).toNatClampNeg r_12)) 12 (upd (σ1.2.1 12) (x3 - x2).toNatClampNeg r_17)) 13 (upd (σ1.2.1 13) (x3 - x2).toNatClampNeg (σ1.2.1 13 x3.toNatClampNeg))) 14 (upd (σ1.2.1 14) (x3 - x2).toNatClampNeg (σ1.2.1 14 x3.toNatClampNeg))) 15 (upd (σ1.2.1 15) (x3 - x2).toNatClampNeg (σ1.2.1 15 x3.toNatClampNeg)))
def FX11_moveQuestion (L : Nat) (p0 : Int32) (σ : MS) : Option (Int32 × MS) :=
  FX11_moveQuestion_9 L L p0 (p0 - (σ.1 27)) p0 σ
abbrev rmX11_moveQuestion : Room := { frames := 1, cells := 0, slots := 0, locals := 23 }
set_option maxRecDepth 100000 in
set_option maxHeartbeats 4000000 in
theorem kX11_moveQuestion {l : Launch} {D : va_G} {cI cJ : ClassId} {ad : Nat → Nat} {KS : (Nat → Prop) → State → Prop} {L : Nat} (hc : gC KS) {p0 : Int32} {σ σ' : MS} {r : Int32} (h : FX11_moveQuestion L p0 σ = some (r, σ')) : gMet l yX11_moveQuestion qX11_moveQuestion rmX11_moveQuestion 0 0 D vwCl [(cI, .int), (cJ, .long)] KS [.ref (ad 0), .int p0] (MW cI cJ ad σ) (MW cI cJ ad σ') (some (.int r)) := by
  refine gMet.of (cc := cX11_moveQuestion) (maxL := 4) (ret := (some .int)) (by decide) rfl (Nat.le_of_ble_eq_true rfl) ?_
  intro p e s m args below meth c S hr hlk hnm hK hKS hA hB ls hl
  have hl : lv_has ls 4 [(0, .ref (ad 0)), (1, .int p0)] := hl
  replace S : CallFix p m c cX11_moveQuestion 4 s args (_ :: wsL_law) RX11 := S
  rw [FX11_moveQuestion] at h
  have P9 : ∀  (n : Nat), ∀ (x1 : Int32) (x2 : Int32) (x3 : Int32) (σ1 : MS) (H : Heap) (locs : List Loc) (ls : Array Slot), FX11_moveQuestion_9 L n x1 x2 x3 σ1 = some (r, σ') → gB D vwCl (va_A (MW cI cJ ad σ) s.heap.size) s.heap (MW cI cJ ad σ1) [] H locs → lv_has ls 4 [(0, .ref (ad 0)), (1, .int x1), (2, .int x2), (3, .int x3)] → W p l e rmX11_moveQuestion s m args below meth c H locs 0 0 (MQ below (gQ D vwCl (MW cI cJ ad σ) (MW cI cJ ad σ') (some (.int r)) s.heap.size) args s 0 0 (va_A (MW cI cJ ad σ) s.heap.size)) (F0 m 9 ls []) := by
    intro n
    induction n with
    | zero => intro x1 x2 x3 σ1 H locs ls h; simp only [FX11_moveQuestion_9] at h; cases h
    | succ n ih =>
      intro x1 x2 x3 σ1 H locs ls h hB hl
      rw [FX11_moveQuestion_9] at h
      refine lv_iload_n S.1 S.2.1 dX11_moveQuestion_9 rfl (lv_at hl 3 rfl) ?_
      refine lv_aload_n S.1 S.2.1 dX11_moveQuestion_10 rfl (lv_at hl 0 rfl) ?_
      refine mg_nodes S hK hB wf_X11_312 rfl dX11_moveQuestion_11 ?_
      refine lv_icmp_ge (tgt := 166) S.1 S.2.1 dX11_moveQuestion_14 (by decide) (fun c_1 => ?_) (fun c_1 => ?_)
      · replace h := (if_pos c_1).symm.trans h
        refine lv_aload_n S.1 S.2.1 dX11_moveQuestion_166 rfl (lv_at hl 0 rfl) ?_
        refine lv_dup S.1 S.2.1 dX11_moveQuestion_167 rfl ?_
        refine mg_nodes S hK hB wf_X11_312 rfl dX11_moveQuestion_168 ?_
        refine lv_iload_n S.1 S.2.1 dX11_moveQuestion_171 rfl (lv_at hl 2 rfl) ?_
        refine lv_isub S.1 S.2.1 dX11_moveQuestion_172 ?_
        refine mp_nodes S hK hB wf_X11_312 dX11_moveQuestion_173 (fun H locs hB => ?_)
        refine lv_aload_n S.1 S.2.1 dX11_moveQuestion_176 rfl (lv_at hl 0 rfl) ?_
        refine mg_made (v := (σ1.1 17)) S hK hB wf_X11_309 rfl dX11_moveQuestion_177 ?_
        refine lv_iload_n S.1 S.2.1 dX11_moveQuestion_180 rfl (lv_at hl 2 rfl) ?_
        refine lv_isub S.1 S.2.1 dX11_moveQuestion_181 ?_
        cases h
        exact gRetI S.1 S.2.1 hr hlk hB dX11_moveQuestion_182
      · replace h := (if_neg c_1).symm.trans h
        refine lv_aload_n S.1 S.2.1 dX11_moveQuestion_17 rfl (lv_at hl 0 rfl) ?_
        refine mg_kind S hK hB wf_X11_26 dX11_moveQuestion_18 ?_
        refine lv_iload_n S.1 S.2.1 dX11_moveQuestion_21 rfl (lv_at hl 3 rfl) ?_
        refine lv_iload_n S.1 S.2.1 dX11_moveQuestion_22 rfl (lv_at hl 2 rfl) ?_
        refine lv_isub S.1 S.2.1 dX11_moveQuestion_23 ?_
        refine lv_aload_n S.1 S.2.1 dX11_moveQuestion_24 rfl (lv_at hl 0 rfl) ?_
        refine mg_kind S hK hB wf_X11_26 dX11_moveQuestion_25 ?_
        refine lv_iload_n S.1 S.2.1 dX11_moveQuestion_28 rfl (lv_at hl 3 rfl) ?_
        obtain ⟨b_2, h⟩ := gd h
        refine ml_kind (v := (σ1.2.1 9 x3.toNatClampNeg)) S hK hB b_2 rfl dX11_moveQuestion_29 ?_
        obtain ⟨b_3, h⟩ := gd h
        refine ms_kind S hK hB b_3 dX11_moveQuestion_30 (fun H locs hB => ?_)
        refine lv_aload_n S.1 S.2.1 dX11_moveQuestion_31 rfl (lv_at hl 0 rfl) ?_
        refine mg_first S hK hB wf_X11_29 dX11_moveQuestion_32 ?_
        refine lv_iload_n S.1 S.2.1 dX11_moveQuestion_35 rfl (lv_at hl 3 rfl) ?_
        refine lv_iload_n S.1 S.2.1 dX11_moveQuestion_36 rfl (lv_at hl 2 rfl) ?_
        refine lv_isub S.1 S.2.1 dX11_moveQuestion_37 ?_
        refine lv_aload_n S.1 S.2.1 dX11_moveQuestion_38 rfl (lv_at hl 0 rfl) ?_
        refine mg_first S hK hB wf_X11_29 dX11_moveQuestion_39 ?_
        refine lv_iload_n S.1 S.2.1 dX11_moveQuestion_42 rfl (lv_at hl 3 rfl) ?_
        obtain ⟨b_4, h⟩ := gd h
        refine ml_first (v := (σ1.2.1 10 x3.toNatClampNeg)) S hK hB b_4 rfl dX11_moveQuestion_43 ?_
        refine lv_iload_n S.1 S.2.1 dX11_moveQuestion_44 rfl (lv_at hl 1 rfl) ?_
        refine lv_iload_n S.1 S.2.1 dX11_moveQuestion_45 rfl (lv_at hl 2 rfl) ?_
        refine lv_aload_n S.1 S.2.1 dX11_moveQuestion_46 rfl (lv_at hl 0 rfl) ?_
        refine mg_kind S hK hB wf_X11_26 dX11_moveQuestion_47 ?_
        refine lv_iload_n S.1 S.2.1 dX11_moveQuestion_50 rfl (lv_at hl 3 rfl) ?_
        obtain ⟨b_5, h⟩ := gd h
        refine ml_kind (v := ((upd (σ1.2.1 9) (x3 - x2).toNatClampNeg (σ1.2.1 9 x3.toNatClampNeg)) x3.toNatClampNeg)) S hK hB b_5 rfl dX11_moveQuestion_51 ?_
        refine lv_iconst (v := (1 : Int32)) S.1 S.2.1 dX11_moveQuestion_52 (by decide) ?_
        obtain ⟨r_6, e_6, h⟩ := bnd h
        refine mCallSI S hK hc hKS hA (kX11_isPart hc e_6) (cwX11_483 S.2.2.2.2 (rm := rmX11_isPart) rfl rfl ⟨Nat.le_of_ble_eq_true rfl, Nat.le_of_ble_eq_true rfl⟩) hB rfl hl.1 rfl (lv_room (Nat.le_of_ble_eq_true rfl)) dX11_moveQuestion_53 ⟨Nat.zero_le _, Nat.zero_le _⟩ (fun H locs hB => ?_)
        obtain ⟨r_7, e_7, h⟩ := bnd h
        refine mCallSI S hK hc hKS hA (kX11_moved hc e_7) (cwX11_486 S.2.2.2.2 (rm := rmX11_moved) rfl rfl ⟨Nat.le_of_ble_eq_true rfl, Nat.le_of_ble_eq_true rfl⟩) hB rfl hl.1 rfl (lv_room (Nat.le_of_ble_eq_true rfl)) dX11_moveQuestion_56 ⟨Nat.zero_le _, Nat.zero_le _⟩ (fun H locs hB => ?_)
        obtain ⟨b_8, h⟩ := gd h
        refine ms_first S hK hB b_8 dX11_moveQuestion_59 (fun H locs hB => ?_)
        refine lv_aload_n S.1 S.2.1 dX11_moveQuestion_60 rfl (lv_at hl 0 rfl) ?_
        refine mg_second S hK hB wf_X11_32 dX11_moveQuestion_61 ?_
        refine lv_iload_n S.1 S.2.1 dX11_moveQuestion_64 rfl (lv_at hl 3 rfl) ?_
        refine lv_iload_n S.1 S.2.1 dX11_moveQuestion_65 rfl (lv_at hl 2 rfl) ?_
        refine lv_isub S.1 S.2.1 dX11_moveQuestion_66 ?_
        refine lv_aload_n S.1 S.2.1 dX11_moveQuestion_67 rfl (lv_at hl 0 rfl) ?_
        refine mg_second S hK hB wf_X11_32 dX11_moveQuestion_68 ?_
        refine lv_iload_n S.1 S.2.1 dX11_moveQuestion_71 rfl (lv_at hl 3 rfl) ?_
        obtain ⟨b_9, h⟩ := gd h
        refine ml_second (v := (σ1.2.1 11 x3.toNatClampNeg)) S hK hB b_9 rfl dX11_moveQuestion_72 ?_
        refine lv_iload_n S.1 S.2.1 dX11_moveQuestion_73 rfl (lv_at hl 1 rfl) ?_
        refine lv_iload_n S.1 S.2.1 dX11_moveQuestion_74 rfl (lv_at hl 2 rfl) ?_
        refine lv_aload_n S.1 S.2.1 dX11_moveQuestion_75 rfl (lv_at hl 0 rfl) ?_
        refine mg_kind S hK hB wf_X11_26 dX11_moveQuestion_76 ?_
        refine lv_iload_n S.1 S.2.1 dX11_moveQuestion_79 rfl (lv_at hl 3 rfl) ?_
        obtain ⟨b_10, h⟩ := gd h
        refine ml_kind (v := ((upd (σ1.2.1 9) (x3 - x2).toNatClampNeg (σ1.2.1 9 x3.toNatClampNeg)) x3.toNatClampNeg)) S hK hB b_10 rfl dX11_moveQuestion_80 ?_
        refine lv_iconst (v := (2 : Int32)) S.1 S.2.1 dX11_moveQuestion_81 (by decide) ?_
        obtain ⟨r_11, e_11, h⟩ := bnd h
        refine mCallSI S hK hc hKS hA (kX11_isPart hc e_11) (cwX11_483 S.2.2.2.2 (rm := rmX11_isPart) rfl rfl ⟨Nat.le_of_ble_eq_true rfl, Nat.le_of_ble_eq_true rfl⟩) hB rfl hl.1 rfl (lv_room (Nat.le_of_ble_eq_true rfl)) dX11_moveQuestion_82 ⟨Nat.zero_le _, Nat.zero_le _⟩ (fun H locs hB => ?_)
        obtain ⟨r_12, e_12, h⟩ := bnd h
        refine mCallSI S hK hc hKS hA (kX11_moved hc e_12) (cwX11_486 S.2.2.2.2 (rm := rmX11_moved) rfl rfl ⟨Nat.le_of_ble_eq_true rfl, Nat.le_of_ble_eq_true rfl⟩) hB rfl hl.1 rfl (lv_room (Nat.le_of_ble_eq_true rfl)) dX11_moveQuestion_85 ⟨Nat.zero_le _, Nat.zero_le _⟩ (fun H locs hB => ?_)
        obtain ⟨b_13, h⟩ := gd h
        refine ms_second S hK hB b_13 dX11_moveQuestion_88 (fun H locs hB => ?_)
        refine lv_aload_n S.1 S.2.1 dX11_moveQuestion_89 rfl (lv_at hl 0 rfl) ?_
        refine mg_third S hK hB wf_X11_35 dX11_moveQuestion_90 ?_
        refine lv_iload_n S.1 S.2.1 dX11_moveQuestion_93 rfl (lv_at hl 3 rfl) ?_
        refine lv_iload_n S.1 S.2.1 dX11_moveQuestion_94 rfl (lv_at hl 2 rfl) ?_
        refine lv_isub S.1 S.2.1 dX11_moveQuestion_95 ?_
        refine lv_aload_n S.1 S.2.1 dX11_moveQuestion_96 rfl (lv_at hl 0 rfl) ?_
        refine mg_third S hK hB wf_X11_35 dX11_moveQuestion_97 ?_
        refine lv_iload_n S.1 S.2.1 dX11_moveQuestion_100 rfl (lv_at hl 3 rfl) ?_
        obtain ⟨b_14, h⟩ := gd h
        refine ml_third (v := (σ1.2.1 12 x3.toNatClampNeg)) S hK hB b_14 rfl dX11_moveQuestion_101 ?_
        refine lv_iload_n S.1 S.2.1 dX11_moveQuestion_102 rfl (lv_at hl 1 rfl) ?_
        refine lv_iload_n S.1 S.2.1 dX11_moveQuestion_103 rfl (lv_at hl 2 rfl) ?_
        refine lv_aload_n S.1 S.2.1 dX11_moveQuestion_104 rfl (lv_at hl 0 rfl) ?_
        refine mg_kind S hK hB wf_X11_26 dX11_moveQuestion_105 ?_
        refine lv_iload_n S.1 S.2.1 dX11_moveQuestion_108 rfl (lv_at hl 3 rfl) ?_
        obtain ⟨b_15, h⟩ := gd h
        refine ml_kind (v := ((upd (σ1.2.1 9) (x3 - x2).toNatClampNeg (σ1.2.1 9 x3.toNatClampNeg)) x3.toNatClampNeg)) S hK hB b_15 rfl dX11_moveQuestion_109 ?_
        refine lv_iconst (v := (3 : Int32)) S.1 S.2.1 dX11_moveQuestion_110 (by decide) ?_
        obtain ⟨r_16, e_16, h⟩ := bnd h
        refine mCallSI S hK hc hKS hA (kX11_isPart hc e_16) (cwX11_483 S.2.2.2.2 (rm := rmX11_isPart) rfl rfl ⟨Nat.le_of_ble_eq_true rfl, Nat.le_of_ble_eq_true rfl⟩) hB rfl hl.1 rfl (lv_room (Nat.le_of_ble_eq_true rfl)) dX11_moveQuestion_111 ⟨Nat.zero_le _, Nat.zero_le _⟩ (fun H locs hB => ?_)
        obtain ⟨r_17, e_17, h⟩ := bnd h
        refine mCallSI S hK hc hKS hA (kX11_moved hc e_17) (cwX11_486 S.2.2.2.2 (rm := rmX11_moved) rfl rfl ⟨Nat.le_of_ble_eq_true rfl, Nat.le_of_ble_eq_true rfl⟩) hB rfl hl.1 rfl (lv_room (Nat.le_of_ble_eq_true rfl)) dX11_moveQuestion_114 ⟨Nat.zero_le _, Nat.zero_le _⟩ (fun H locs hB => ?_)
        obtain ⟨b_18, h⟩ := gd h
        refine ms_third S hK hB b_18 dX11_moveQuestion_117 (fun H locs hB => ?_)
        refine lv_aload_n S.1 S.2.1 dX11_moveQuestion_118 rfl (lv_at hl 0 rfl) ?_
        refine mg_low S hK hB wf_X11_38 dX11_moveQuestion_119 ?_
        refine lv_iload_n S.1 S.2.1 dX11_moveQuestion_122 rfl (lv_at hl 3 rfl) ?_
        refine lv_iload_n S.1 S.2.1 dX11_moveQuestion_123 rfl (lv_at hl 2 rfl) ?_
        refine lv_isub S.1 S.2.1 dX11_moveQuestion_124 ?_
        refine lv_aload_n S.1 S.2.1 dX11_moveQuestion_125 rfl (lv_at hl 0 rfl) ?_
        refine mg_low S hK hB wf_X11_38 dX11_moveQuestion_126 ?_
        refine lv_iload_n S.1 S.2.1 dX11_moveQuestion_129 rfl (lv_at hl 3 rfl) ?_
        obtain ⟨b_19, h⟩ := gd h
        refine ml_low (v := (σ1.2.1 13 x3.toNatClampNeg)) S hK hB b_19 rfl dX11_moveQuestion_130 ?_
        obtain ⟨b_20, h⟩ := gd h
        refine ms_low S hK hB b_20 dX11_moveQuestion_131 (fun H locs hB => ?_)
        refine lv_aload_n S.1 S.2.1 dX11_moveQuestion_132 rfl (lv_at hl 0 rfl) ?_
        refine mg_high S hK hB wf_X11_41 dX11_moveQuestion_133 ?_
        refine lv_iload_n S.1 S.2.1 dX11_moveQuestion_136 rfl (lv_at hl 3 rfl) ?_
        refine lv_iload_n S.1 S.2.1 dX11_moveQuestion_137 rfl (lv_at hl 2 rfl) ?_
        refine lv_isub S.1 S.2.1 dX11_moveQuestion_138 ?_
        refine lv_aload_n S.1 S.2.1 dX11_moveQuestion_139 rfl (lv_at hl 0 rfl) ?_
        refine mg_high S hK hB wf_X11_41 dX11_moveQuestion_140 ?_
        refine lv_iload_n S.1 S.2.1 dX11_moveQuestion_143 rfl (lv_at hl 3 rfl) ?_
        obtain ⟨b_21, h⟩ := gd h
        refine ml_high (v := (σ1.2.1 14 x3.toNatClampNeg)) S hK hB b_21 rfl dX11_moveQuestion_144 ?_
        obtain ⟨b_22, h⟩ := gd h
        refine ms_high S hK hB b_22 dX11_moveQuestion_145 (fun H locs hB => ?_)
        refine lv_aload_n S.1 S.2.1 dX11_moveQuestion_146 rfl (lv_at hl 0 rfl) ?_
        refine mg_place S hK hB wf_X11_44 dX11_moveQuestion_147 ?_
        refine lv_iload_n S.1 S.2.1 dX11_moveQuestion_150 rfl (lv_at hl 3 rfl) ?_
        refine lv_iload_n S.1 S.2.1 dX11_moveQuestion_151 rfl (lv_at hl 2 rfl) ?_
        refine lv_isub S.1 S.2.1 dX11_moveQuestion_152 ?_
        refine lv_aload_n S.1 S.2.1 dX11_moveQuestion_153 rfl (lv_at hl 0 rfl) ?_
        refine mg_place S hK hB wf_X11_44 dX11_moveQuestion_154 ?_
        refine lv_iload_n S.1 S.2.1 dX11_moveQuestion_157 rfl (lv_at hl 3 rfl) ?_
        obtain ⟨b_23, h⟩ := gd h
        refine ml_place (v := (σ1.2.1 15 x3.toNatClampNeg)) S hK hB b_23 rfl dX11_moveQuestion_158 ?_
        obtain ⟨b_24, h⟩ := gd h
        refine ms_place S hK hB b_24 dX11_moveQuestion_159 (fun H locs hB => ?_)
        refine lv_iinc (v := (x3 + (1 : Int32))) (lv' := [(3, .int (x3 + (1 : Int32))), (0, .ref (ad 0)), (1, .int x1), (2, .int x2)]) S.1 S.2.1 dX11_moveQuestion_160 hl (k := 3) rfl rfl (by decide) rfl (fun ls hl => ?_)
        refine lv_goto (tgt := 9) S.1 S.2.1 dX11_moveQuestion_163 (by decide) ?_
        exact ih _ _ _ _ _ _ _ h hB (lv_sub hl [1, 2, 3, 0] rfl)
  refine lv_iload_n S.1 S.2.1 dX11_moveQuestion_0 rfl (lv_at hl 1 rfl) ?_
  refine lv_aload_n S.1 S.2.1 dX11_moveQuestion_1 rfl (lv_at hl 0 rfl) ?_
  refine mg_programNodes S hK hB wf_X11_366 rfl dX11_moveQuestion_2 ?_
  refine lv_isub S.1 S.2.1 dX11_moveQuestion_5 ?_
  refine lv_istore_n (lv' := [(2, .int (p0 - (σ.1 27))), (0, .ref (ad 0)), (1, .int p0)]) S.1 S.2.1 dX11_moveQuestion_6 rfl hl (by decide) rfl (fun ls hl => ?_)
  refine lv_iload_n S.1 S.2.1 dX11_moveQuestion_7 rfl (lv_at hl 2 rfl) ?_
  refine lv_istore_n (lv' := [(3, .int p0), (2, .int (p0 - (σ.1 27))), (0, .ref (ad 0)), (1, .int p0)]) S.1 S.2.1 dX11_moveQuestion_8 rfl hl (by decide) rfl (fun ls hl => ?_)
  exact P9  L _ _ _ _ _ _ _ h hB (lv_sub hl [2, 3, 1, 0] rfl)
