def FX11_meaning_0 (L : Nat)  : Nat → MS → Option (Int32 × MS)
  | 0, _ => none
  | n+1, σ1 =>
    if ((σ1.1 7) < 0 ∨ 1801 ≤ (σ1.1 7).toNatClampNeg) then none else
    if (σ1.2.1 4 (σ1.1 7).toNatClampNeg) = 0 then
      if ((3 : Int32) < 0 ∨ 4 ≤ (3 : Int32).toNatClampNeg) then none else
      if (σ1.2.1 23 (3 : Int32).toNatClampNeg) = 0 then
        b2 (FX11_wrong (6 : Int32) (σ1.1 7) σ1) fun r_5 σ_5 =>
        some (r_5, σ_5)
      else
        some ((0 : Int32), σ1)
    else
      b2 (FX11_itemMeant L σ1) fun r_6 σ_6 =>
      if r_6 = 0 then
        (FX11_meaning_0 L n) (sI σ_6 7 ((σ_6.1 7) + (1 : Int32)))
      else
        some (r_6, σ_6)
def FX11_meaning (L : Nat)  (σ : MS) : Option (Int32 × MS) :=
  FX11_meaning_0 L 50 σ
abbrev rmX11_meaning : Room := { frames := 722, cells := 50, slots := 200, locals := 28448 }
set_option maxRecDepth 100000 in
set_option maxHeartbeats 4000000 in
theorem kX11_meaning {l : Launch} {D : va_G} {cI cJ : ClassId} {ad : Nat → Nat} {adK adV tK : Nat → Nat} {L : Nat}  {σ σ' : MS} {r : Int32} (h : FX11_meaning L  σ = some (r, σ')) : gMet l yX11_meaning qX11_meaning rmX11_meaning 50 200 D vwCl [(cI, .int), (cJ, .long)] (mKY adK adV tK) [.ref (ad 0)] (MW cI cJ ad σ) (MW cI cJ ad σ') (some (.int r)) := by
  refine gMet.of (cc := cX11_meaning) (maxL := 2) (ret := (some .int)) (by decide) rfl (Nat.le_of_ble_eq_true rfl) ?_
  intro p e s m args below meth c S hr hlk hnm hK hKS hA hB ls hl
  have hl : lv_has ls 2 [(0, .ref (ad 0))] := hl
  replace S : CallFix p m c cX11_meaning 2 s args (_ :: wsL_law) RX11 := S
  rw [FX11_meaning] at h
  have P0 : ∀  (n : Nat), n ≤ 50 → ∀  (σ1 : MS) (H : Heap) (locs : List Loc) (ls : Array Slot), FX11_meaning_0 L n  σ1 = some (r, σ') → gB D vwCl (va_A (MW cI cJ ad σ) s.heap.size) s.heap (MW cI cJ ad σ1) [] H locs → lv_has ls 2 [(0, .ref (ad 0))] → W p l e rmX11_meaning s m args below meth c H locs (50 - n) (4 * (50 - n)) (MQ below (gQ D vwCl (MW cI cJ ad σ) (MW cI cJ ad σ') (some (.int r)) s.heap.size) args s 50 200 (va_A (MW cI cJ ad σ) s.heap.size)) (F0 m 0 ls []) := by
    intro n
    induction n with
    | zero => intro _ σ1 H locs ls h; simp only [FX11_meaning_0] at h; cases h
    | succ n ih =>
      intro hn  σ1 H locs ls h hB hl
      rw [FX11_meaning_0] at h
      refine lv_aload_n S.1 S.2.1 dX11_meaning_0 rfl (lv_at hl 0 rfl) ?_
      refine mg_kinds S hK hB wf_X11_17 dX11_meaning_1 ?_
      refine lv_aload_n S.1 S.2.1 dX11_meaning_4 rfl (lv_at hl 0 rfl) ?_
      refine mg_at S hK hB wf_X11_152 rfl dX11_meaning_5 ?_
      obtain ⟨b_1, h⟩ := gd h
      refine ml_kinds (v := (σ1.2.1 4 (σ1.1 7).toNatClampNeg)) S hK hB b_1 rfl dX11_meaning_8 ?_
      refine lv_if_eq (tgt := 36) S.1 S.2.1 dX11_meaning_9 (by decide) (fun c_2 => ?_) (fun c_2 => ?_)
      · replace h := (if_pos c_2).symm.trans h
        refine lv_aload_n S.1 S.2.1 dX11_meaning_36 rfl (lv_at hl 0 rfl) ?_
        refine mg_many S hK hB wf_X11_61 dX11_meaning_37 ?_
        refine lv_iconst (v := (3 : Int32)) S.1 S.2.1 dX11_meaning_40 (by decide) ?_
        obtain ⟨b_3, h⟩ := gd h
        refine ml_many (v := (σ1.2.1 23 (3 : Int32).toNatClampNeg)) S hK hB b_3 rfl dX11_meaning_41 ?_
        refine lv_if_ne (tgt := 58) S.1 S.2.1 dX11_meaning_42 (by decide) (fun c_4 => ?_) (fun c_4 => ?_)
        · replace h := (if_neg c_4).symm.trans h
          refine lv_iconst (v := (0 : Int32)) S.1 S.2.1 dX11_meaning_58 (by decide) ?_
          refine W.widen (k := 50) (n := 200) (by omega) (by omega) ?_
          cases h
          exact gRetI S.1 S.2.1 hr hlk hB dX11_meaning_59
        · replace h := (if_pos c_4).symm.trans h
          refine lv_aload_n S.1 S.2.1 dX11_meaning_45 rfl (lv_at hl 0 rfl) ?_
          refine lv_bipush (v := (6 : Int32)) S.1 S.2.1 dX11_meaning_46 (by decide) ?_
          refine lv_aload_n S.1 S.2.1 dX11_meaning_48 rfl (lv_at hl 0 rfl) ?_
          refine mg_at S hK hB wf_X11_152 rfl dX11_meaning_49 ?_
          obtain ⟨r_5, σ_5, e_5, h⟩ := b2s h
          refine mCallI S hK mKYc hKS hA (gMet.weak (kX11_wrong mKSc e_5) (fun _ _ q => q.1)) (cwX11_294 S.2.2.2.2 (rm := rmX11_wrong) rfl rfl ⟨Nat.le_of_ble_eq_true rfl, Nat.le_of_ble_eq_true rfl⟩) hB rfl hl.1 rfl (lv_room (Nat.le_of_ble_eq_true rfl)) dX11_meaning_52 ⟨by dsimp only [rmX11_meaning]; omega, by dsimp only [rmX11_meaning]; omega⟩ (fun H locs hB => ?_)
          refine lv_goto (tgt := 59) S.1 S.2.1 dX11_meaning_55 (by decide) ?_
          refine W.widen (k := 50) (n := 200) (by omega) (by omega) ?_
          cases h
          exact gRetI S.1 S.2.1 hr hlk hB dX11_meaning_59
      · replace h := (if_neg c_2).symm.trans h
        refine lv_aload_n S.1 S.2.1 dX11_meaning_12 rfl (lv_at hl 0 rfl) ?_
        obtain ⟨r_6, σ_6, e_6, h⟩ := b2s h
        refine mCallAI S hK mKYc hKS hA (kX11_itemMeant e_6) (cwX11_291 S.2.2.2.2 (rm := rmX11_itemMeant) rfl rfl ⟨Nat.le_of_ble_eq_true rfl, Nat.le_of_ble_eq_true rfl⟩) hB rfl hl.1 rfl (lv_room (Nat.le_of_ble_eq_true rfl)) dX11_meaning_13 ⟨by dsimp only [rmX11_meaning]; omega, by dsimp only [rmX11_meaning]; omega⟩ (fun H locs hB => ?_)
        refine lv_istore_n (lv' := [(1, .int r_6), (0, .ref (ad 0))]) S.1 S.2.1 dX11_meaning_16 rfl hl (by decide) rfl (fun ls hl => ?_)
        refine lv_iload_n S.1 S.2.1 dX11_meaning_17 rfl (lv_at hl 0 rfl) ?_
        refine lv_if_eq (tgt := 23) S.1 S.2.1 dX11_meaning_18 (by decide) (fun c_7 => ?_) (fun c_7 => ?_)
        · replace h := (if_pos c_7).symm.trans h
          refine lv_aload_n S.1 S.2.1 dX11_meaning_23 rfl (lv_at hl 1 rfl) ?_
          refine lv_dup S.1 S.2.1 dX11_meaning_24 rfl ?_
          refine mg_at S hK hB wf_X11_152 rfl dX11_meaning_25 ?_
          refine lv_iconst (v := (1 : Int32)) S.1 S.2.1 dX11_meaning_28 (by decide) ?_
          refine lv_iadd S.1 S.2.1 dX11_meaning_29 ?_
          refine mp_at S hK hB wf_X11_152 dX11_meaning_30 (fun H locs hB => ?_)
          refine lv_goto (tgt := 0) S.1 S.2.1 dX11_meaning_33 (by decide) ?_
          refine W.widen (k := 50 - n) (n := 4 * (50 - n)) (by omega) (by omega) ?_
          exact ih (by omega) _ _ _ _ h hB (lv_sub hl [1] rfl)
        · replace h := (if_neg c_7).symm.trans h
          refine lv_iload_n S.1 S.2.1 dX11_meaning_21 rfl (lv_at hl 0 rfl) ?_
          refine W.widen (k := 50) (n := 200) (by omega) (by omega) ?_
          cases h
          exact gRetI S.1 S.2.1 hr hlk hB dX11_meaning_22
  exact P0 50 (Nat.le_refl _) _ _ _ _ h hB hl
def FX11_compile_81 (L : Nat)  (x1 : Int32) (y1 : Int32) (σ1 : MS) : Option (Int32 × MS) :=
    if (y1 ≠ 0 ∧ y1 ≠ 1) then none else
    b2 (FX11_begin L (sI (sI σ1 18 y1) 27 (σ1.1 8))) fun (_ : Unit) σ_10 =>
    some (x1, σ_10)
def FX11_compile_71 (L : Nat)  (x1 : Int32) (σ1 : MS) : Option (Int32 × MS) :=
    if x1 = 0 then
      FX11_compile_81 L x1 (1 : Int32) σ1
    else
      FX11_compile_81 L x1 (0 : Int32) σ1
def FX11_compile_58 (L : Nat)  (x1 : Int32) (σ1 : MS) : Option (Int32 × MS) :=
    if x1 = 0 then
      FX11_compile_71 L x1 (sI σ1 2 (0 : Int32))
    else
      b2 (FX11_forget L (sI σ1 2 (0 : Int32))) fun (_ : Unit) σ_11 =>
      FX11_compile_71 L x1 σ_11
def FX11_compile_43 (L : Nat)  (y0 : Int32) (σ1 : MS) : Option (Int32 × MS) :=
    if y0 = 0 then
      b2 (FX11_meaning L (sI σ1 7 (0 : Int32))) fun r_12 σ_12 =>
      FX11_compile_58 L r_12 σ_12
    else
      FX11_compile_58 L y0 (sI σ1 7 (0 : Int32))
def FX11_compile (L : Nat)  (σ : MS) : Option (Int32 × MS) :=
  b2 (FX11_forget L (sI σ 0 (0 : Int32))) fun (_ : Unit) σ_1 =>
  b2 (FX11_scan L (sI σ_1 3 (-1 : Int32))) fun (_ : Unit) σ_2 =>
  b2 (FX11_program L (sI σ_2 7 (0 : Int32))) fun r_3 σ_3 =>
  if r_3 = 0 then
    b2 (FX11_wrong (1 : Int32) (σ_3.1 7) σ_3) fun r_5 σ_5 =>
    FX11_compile_43 L r_5 σ_5
  else
    FX11_compile_43 L (0 : Int32) σ_3
abbrev rmX11_compile : Room := { frames := 723, cells := 50, slots := 200, locals := 28469 }
set_option maxRecDepth 100000 in
set_option maxHeartbeats 4000000 in
theorem kX11_compile {l : Launch} {D : va_G} {cI cJ : ClassId} {ad : Nat → Nat} {adK adV tK : Nat → Nat} {L : Nat}  {σ σ' : MS} {r : Int32} (h : FX11_compile L  σ = some (r, σ')) : gMet l yX11_compile qX11_compile rmX11_compile 50 200 D vwCl [(cI, .int), (cJ, .long)] (mKY adK adV tK) [.ref (ad 0)] (MW cI cJ ad σ) (MW cI cJ ad σ') (some (.int r)) := by
  refine gMet.of (cc := cX11_compile) (maxL := 2) (ret := (some .int)) (by decide) rfl (Nat.le_of_ble_eq_true rfl) ?_
  intro p e s m args below meth c S hr hlk hnm hK hKS hA hB ls hl
  have hl : lv_has ls 2 [(0, .ref (ad 0))] := hl
  replace S : CallFix p m c cX11_compile 2 s args (_ :: wsL_law) RX11 := S
  rw [FX11_compile] at h
  have P81 : ∀ (x1 : Int32) (y1 : Int32) (σ1 : MS) (H : Heap) (locs : List Loc) (ls : Array Slot), FX11_compile_81 L x1 y1 σ1 = some (r, σ') → gB D vwCl (va_A (MW cI cJ ad σ) s.heap.size) s.heap (MW cI cJ ad σ1) [] H locs → lv_has ls 2 [(0, .ref (ad 0)), (1, .int x1)] → W p l e rmX11_compile s m args below meth c H locs 50 200 (MQ below (gQ D vwCl (MW cI cJ ad σ) (MW cI cJ ad σ') (some (.int r)) s.heap.size) args s 50 200 (va_A (MW cI cJ ad σ) s.heap.size)) (F0 m 81 ls [.int y1, .ref (ad 0)]) := by
    intro  x1 y1 σ1 H locs ls h hB hl
    rw [FX11_compile_81] at h
    obtain ⟨z_9, h⟩ := gd h
    refine mp_isThere S hK hB wf_X11_362 (nzB z_9) (fzB z_9) dX11_compile_81 (fun H locs hB => ?_)
    refine lv_aload_n S.1 S.2.1 dX11_compile_84 rfl (lv_at hl 0 rfl) ?_
    refine lv_aload_n S.1 S.2.1 dX11_compile_85 rfl (lv_at hl 0 rfl) ?_
    refine mg_nodes (v := (σ1.1 8)) S hK hB wf_X11_312 rfl dX11_compile_86 ?_
    refine mp_programNodes S hK hB wf_X11_366 dX11_compile_89 (fun H locs hB => ?_)
    refine lv_aload_n S.1 S.2.1 dX11_compile_92 rfl (lv_at hl 0 rfl) ?_
    obtain ⟨_, σ_10, e_10, h⟩ := b2s h
    refine mCallV S hK mKYc hKS hA (gMet.weak (kX11_begin mKSc e_10) (fun _ _ q => q.1)) (cwX11_384 S.2.2.2.2 (rm := rmX11_begin) rfl rfl ⟨Nat.le_of_ble_eq_true rfl, Nat.le_of_ble_eq_true rfl⟩) hB rfl hl.1 rfl (lv_room (Nat.le_of_ble_eq_true rfl)) dX11_compile_93 ⟨by decide, by decide⟩ (fun H locs hB => ?_)
    refine lv_iload_n S.1 S.2.1 dX11_compile_96 rfl (lv_at hl 1 rfl) ?_
    cases h
    exact gRetI S.1 S.2.1 hr hlk hB dX11_compile_97
  have P71 : ∀ (x1 : Int32) (σ1 : MS) (H : Heap) (locs : List Loc) (ls : Array Slot), FX11_compile_71 L x1 σ1 = some (r, σ') → gB D vwCl (va_A (MW cI cJ ad σ) s.heap.size) s.heap (MW cI cJ ad σ1) [] H locs → lv_has ls 2 [(0, .ref (ad 0)), (1, .int x1)] → W p l e rmX11_compile s m args below meth c H locs 50 200 (MQ below (gQ D vwCl (MW cI cJ ad σ) (MW cI cJ ad σ') (some (.int r)) s.heap.size) args s 50 200 (va_A (MW cI cJ ad σ) s.heap.size)) (F0 m 71 ls []) := by
    intro  x1 σ1 H locs ls h hB hl
    rw [FX11_compile_71] at h
    refine lv_aload_n S.1 S.2.1 dX11_compile_71 rfl (lv_at hl 0 rfl) ?_
    refine lv_iload_n S.1 S.2.1 dX11_compile_72 rfl (lv_at hl 1 rfl) ?_
    refine lv_if_ne (tgt := 80) S.1 S.2.1 dX11_compile_73 (by decide) (fun c_8 => ?_) (fun c_8 => ?_)
    · replace h := (if_neg c_8).symm.trans h
      refine lv_iconst (v := (0 : Int32)) S.1 S.2.1 dX11_compile_80 (by decide) ?_
      exact P81  _ _ _ _ _ _ h hB hl
    · replace h := (if_pos c_8).symm.trans h
      refine lv_iconst (v := (1 : Int32)) S.1 S.2.1 dX11_compile_76 (by decide) ?_
      refine lv_goto (tgt := 81) S.1 S.2.1 dX11_compile_77 (by decide) ?_
      exact P81  _ _ _ _ _ _ h hB hl
  have P58 : ∀ (x1 : Int32) (σ1 : MS) (H : Heap) (locs : List Loc) (ls : Array Slot), FX11_compile_58 L x1 σ1 = some (r, σ') → gB D vwCl (va_A (MW cI cJ ad σ) s.heap.size) s.heap (MW cI cJ ad σ1) [] H locs → lv_has ls 2 [(0, .ref (ad 0)), (1, .int x1)] → W p l e rmX11_compile s m args below meth c H locs 50 200 (MQ below (gQ D vwCl (MW cI cJ ad σ) (MW cI cJ ad σ') (some (.int r)) s.heap.size) args s 50 200 (va_A (MW cI cJ ad σ) s.heap.size)) (F0 m 58 ls []) := by
    intro  x1 σ1 H locs ls h hB hl
    rw [FX11_compile_58] at h
    refine lv_aload_n S.1 S.2.1 dX11_compile_58 rfl (lv_at hl 0 rfl) ?_
    refine lv_iconst (v := (0 : Int32)) S.1 S.2.1 dX11_compile_59 (by decide) ?_
    refine mp_length S hK hB wf_X11_94 dX11_compile_60 (fun H locs hB => ?_)
    refine lv_iload_n S.1 S.2.1 dX11_compile_63 rfl (lv_at hl 1 rfl) ?_
    refine lv_if_eq (tgt := 71) S.1 S.2.1 dX11_compile_64 (by decide) (fun c_7 => ?_) (fun c_7 => ?_)
    · replace h := (if_pos c_7).symm.trans h
      exact P71  _ _ _ _ _ h hB hl
    · replace h := (if_neg c_7).symm.trans h
      refine lv_aload_n S.1 S.2.1 dX11_compile_67 rfl (lv_at hl 0 rfl) ?_
      obtain ⟨_, σ_11, e_11, h⟩ := b2s h
      refine mCallV S hK mKYc hKS hA (gMet.weak (kX11_forget mKSc e_11) (fun _ _ q => q.1)) (cwX11_372 S.2.2.2.2 (rm := rmX11_forget) rfl rfl ⟨Nat.le_of_ble_eq_true rfl, Nat.le_of_ble_eq_true rfl⟩) hB rfl hl.1 rfl (lv_room (Nat.le_of_ble_eq_true rfl)) dX11_compile_68 ⟨by decide, by decide⟩ (fun H locs hB => ?_)
      exact P71  _ _ _ _ _ h hB hl
  have P43 : ∀ (y0 : Int32) (σ1 : MS) (H : Heap) (locs : List Loc) (ls : Array Slot), FX11_compile_43 L y0 σ1 = some (r, σ') → gB D vwCl (va_A (MW cI cJ ad σ) s.heap.size) s.heap (MW cI cJ ad σ1) [] H locs → lv_has ls 2 [(0, .ref (ad 0))] → W p l e rmX11_compile s m args below meth c H locs 0 0 (MQ below (gQ D vwCl (MW cI cJ ad σ) (MW cI cJ ad σ') (some (.int r)) s.heap.size) args s 50 200 (va_A (MW cI cJ ad σ) s.heap.size)) (F0 m 43 ls [.int y0]) := by
    intro  y0 σ1 H locs ls h hB hl
    rw [FX11_compile_43] at h
    refine lv_istore_n (lv' := [(1, .int y0), (0, .ref (ad 0))]) S.1 S.2.1 dX11_compile_43 rfl hl (by decide) rfl (fun ls hl => ?_)
    refine lv_aload_n S.1 S.2.1 dX11_compile_44 rfl (lv_at hl 1 rfl) ?_
    refine lv_iconst (v := (0 : Int32)) S.1 S.2.1 dX11_compile_45 (by decide) ?_
    refine mp_at S hK hB wf_X11_152 dX11_compile_46 (fun H locs hB => ?_)
    refine lv_iload_n S.1 S.2.1 dX11_compile_49 rfl (lv_at hl 0 rfl) ?_
    refine lv_if_ne (tgt := 58) S.1 S.2.1 dX11_compile_50 (by decide) (fun c_6 => ?_) (fun c_6 => ?_)
    · replace h := (if_neg c_6).symm.trans h
      refine W.widen (k := 50) (n := 200) (by decide) (by decide) ?_
      exact P58  _ _ _ _ _ h hB (lv_sub hl [1, 0] rfl)
    · replace h := (if_pos c_6).symm.trans h
      refine lv_aload_n S.1 S.2.1 dX11_compile_53 rfl (lv_at hl 1 rfl) ?_
      obtain ⟨r_12, σ_12, e_12, h⟩ := b2s h
      refine mCallAI S hK mKYc hKS hA (kX11_meaning e_12) (cwX11_381 S.2.2.2.2 (rm := rmX11_meaning) rfl rfl ⟨Nat.le_of_ble_eq_true rfl, Nat.le_of_ble_eq_true rfl⟩) hB rfl hl.1 rfl (lv_room (Nat.le_of_ble_eq_true rfl)) dX11_compile_54 ⟨by decide, by decide⟩ (fun H locs hB => ?_)
      refine lv_istore_n (lv' := [(1, .int r_12), (0, .ref (ad 0))]) S.1 S.2.1 dX11_compile_57 rfl hl (by decide) rfl (fun ls hl => ?_)
      exact P58  _ _ _ _ _ h hB (lv_sub hl [1, 0] rfl)
  refine lv_aload_n S.1 S.2.1 dX11_compile_0 rfl (lv_at hl 0 rfl) ?_
  refine lv_iconst (v := (0 : Int32)) S.1 S.2.1 dX11_compile_1 (by decide) ?_
  refine mp_thrown S hK hB wf_X11_91 dX11_compile_2 (fun H locs hB => ?_)
  refine lv_aload_n S.1 S.2.1 dX11_compile_5 rfl (lv_at hl 0 rfl) ?_
  obtain ⟨_, σ_1, e_1, h⟩ := b2s h
  refine mCallV S hK mKYc hKS hA (gMet.weak (kX11_forget mKSc e_1) (fun _ _ q => q.1)) (cwX11_372 S.2.2.2.2 (rm := rmX11_forget) rfl rfl ⟨Nat.le_of_ble_eq_true rfl, Nat.le_of_ble_eq_true rfl⟩) hB rfl hl.1 rfl (lv_room (Nat.le_of_ble_eq_true rfl)) dX11_compile_6 ⟨by decide, by decide⟩ (fun H locs hB => ?_)
  refine lv_aload_n S.1 S.2.1 dX11_compile_9 rfl (lv_at hl 0 rfl) ?_
  refine lv_iconst (v := (-1 : Int32)) S.1 S.2.1 dX11_compile_10 (by decide) ?_
  refine mp_errorAt S hK hB wf_X11_13 dX11_compile_11 (fun H locs hB => ?_)
  refine lv_aload_n S.1 S.2.1 dX11_compile_14 rfl (lv_at hl 0 rfl) ?_
  obtain ⟨_, σ_2, e_2, h⟩ := b2s h
  refine mCallV S hK mKYc hKS hA (gMet.weak (kX11_scan e_2) (fun _ _ q => q.1)) (cwX11_375 S.2.2.2.2 (rm := rmX11_scan) rfl rfl ⟨Nat.le_of_ble_eq_true rfl, Nat.le_of_ble_eq_true rfl⟩) hB rfl hl.1 rfl (lv_room (Nat.le_of_ble_eq_true rfl)) dX11_compile_15 ⟨by decide, by decide⟩ (fun H locs hB => ?_)
  refine lv_aload_n S.1 S.2.1 dX11_compile_18 rfl (lv_at hl 0 rfl) ?_
  refine lv_iconst (v := (0 : Int32)) S.1 S.2.1 dX11_compile_19 (by decide) ?_
  refine mp_at S hK hB wf_X11_152 dX11_compile_20 (fun H locs hB => ?_)
  refine lv_aload_n S.1 S.2.1 dX11_compile_23 rfl (lv_at hl 0 rfl) ?_
  obtain ⟨r_3, σ_3, e_3, h⟩ := b2s h
  refine mCallI S hK mKYc hKS hA (gMet.weak (kX11_program e_3) (fun _ _ q => q.1)) (cwX11_378 S.2.2.2.2 (rm := rmX11_program) rfl rfl ⟨Nat.le_of_ble_eq_true rfl, Nat.le_of_ble_eq_true rfl⟩) hB rfl hl.1 rfl (lv_room (Nat.le_of_ble_eq_true rfl)) dX11_compile_24 ⟨by decide, by decide⟩ (fun H locs hB => ?_)
  refine lv_if_eq (tgt := 34) S.1 S.2.1 dX11_compile_27 (by decide) (fun c_4 => ?_) (fun c_4 => ?_)
  · replace h := (if_pos c_4).symm.trans h
    refine lv_aload_n S.1 S.2.1 dX11_compile_34 rfl (lv_at hl 0 rfl) ?_
    refine lv_iconst (v := (1 : Int32)) S.1 S.2.1 dX11_compile_35 (by decide) ?_
    refine lv_aload_n S.1 S.2.1 dX11_compile_36 rfl (lv_at hl 0 rfl) ?_
    refine mg_at S hK hB wf_X11_152 rfl dX11_compile_37 ?_
    obtain ⟨r_5, σ_5, e_5, h⟩ := b2s h
    refine mCallI S hK mKYc hKS hA (gMet.weak (kX11_wrong mKSc e_5) (fun _ _ q => q.1)) (cwX11_294 S.2.2.2.2 (rm := rmX11_wrong) rfl rfl ⟨Nat.le_of_ble_eq_true rfl, Nat.le_of_ble_eq_true rfl⟩) hB rfl hl.1 rfl (lv_room (Nat.le_of_ble_eq_true rfl)) dX11_compile_40 ⟨by decide, by decide⟩ (fun H locs hB => ?_)
    exact P43  _ _ _ _ _ h hB hl
  · replace h := (if_neg c_4).symm.trans h
    refine lv_iconst (v := (0 : Int32)) S.1 S.2.1 dX11_compile_30 (by decide) ?_
    refine lv_goto (tgt := 43) S.1 S.2.1 dX11_compile_31 (by decide) ?_
    exact P43  _ _ _ _ _ h hB hl
