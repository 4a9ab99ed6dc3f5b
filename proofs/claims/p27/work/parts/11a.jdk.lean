def FJ3_checkIndex_8e157_9  (x0 : Int32) (x1 : Int32) : Option Int32 :=
    none
def FJ3_checkIndex_8e157 (p0 : Int32) (p1 : Int32) : Option Int32 :=
  if p0 < 0 then
    FJ3_checkIndex_8e157_9 p0 p1
  else
    if p0 < p1 then
      some p0
    else
      FJ3_checkIndex_8e157_9 p0 p1
abbrev rmJ3_checkIndex_8e157 : Room := { frames := 0, cells := 0, slots := 0, locals := 0 }
set_option maxRecDepth 100000 in
set_option maxHeartbeats 4000000 in
theorem kJ3_ckN {l : Launch} {D : va_G} {cI cJ : ClassId} {adK adV tK : Nat → Nat} {p0 : Int32} {p1 : Int32} {W0 : va_W} {r : Int32} (h : FJ3_checkIndex_8e157 p0 p1 = some r) : gMet l yJ3_checkIndex_8e157 qJ3_checkIndex_8e157 rmJ3_checkIndex_8e157 0 0 D vwCl [(cI, .int), (cJ, .long)] (mKS adK adV tK) [.int p0, .int p1, .null] W0 W0 (some (.int r)) := by
  refine gMet.of (cc := cJ3_checkIndex_8e157) (maxL := 3) (ret := (some .int)) (by decide) rfl (Nat.le_of_ble_eq_true rfl) ?_
  intro p e s m args below meth c S hr hlk hnm hK hKS hA hB ls hl
  have hl : lv_has ls 3 [(0, .int p0), (1, .int p1), (2, .null)] := hl
  replace S : CallFix p m c cJ3_checkIndex_8e157 3 s args (_ :: wsL_law) RJ3 := S
  rw [FJ3_checkIndex_8e157] at h
  have P9 : ∀ (x0 : Int32) (x1 : Int32) (H : Heap) (locs : List Loc) (ls : Array Slot), FJ3_checkIndex_8e157_9 x0 x1 = some r → gB D vwCl (va_A W0 s.heap.size) s.heap W0 [] H locs → lv_has ls 3 [(0, .int x0), (1, .int x1), (2, .null)] → W p l e rmJ3_checkIndex_8e157 s m args below meth c H locs 0 0 (MQ below (gQ D vwCl W0 W0 (some (.int r)) s.heap.size) args s 0 0 (va_A W0 s.heap.size)) (F0 m 9 ls []) := by
    intro  x0 x1 H locs ls h hB hl
    rw [FJ3_checkIndex_8e157_9] at h
    cases h
  refine lv_iload_n S.1 S.2.1 dJ3_checkIndex_8e157_0 rfl (lv_at hl 0 rfl) ?_
  refine lv_if_lt (tgt := 9) S.1 S.2.1 dJ3_checkIndex_8e157_1 (by decide) (fun c_1 => ?_) (fun c_1 => ?_)
  · replace h := (if_pos c_1).symm.trans h
    exact P9  _ _ _ _ _ h hB hl
  · replace h := (if_neg c_1).symm.trans h
    refine lv_iload_n S.1 S.2.1 dJ3_checkIndex_8e157_4 rfl (lv_at hl 0 rfl) ?_
    refine lv_iload_n S.1 S.2.1 dJ3_checkIndex_8e157_5 rfl (lv_at hl 1 rfl) ?_
    refine lv_icmp_lt (tgt := 16) S.1 S.2.1 dJ3_checkIndex_8e157_6 (by decide) (fun c_2 => ?_) (fun c_2 => ?_)
    · replace h := (if_pos c_2).symm.trans h
      refine lv_iload_n S.1 S.2.1 dJ3_checkIndex_8e157_16 rfl (lv_at hl 0 rfl) ?_
      cases h
      exact gRetI S.1 S.2.1 hr hlk hB dJ3_checkIndex_8e157_17
    · replace h := (if_neg c_2).symm.trans h
      exact P9  _ _ _ _ _ h hB hl
set_option maxRecDepth 100000 in
set_option maxHeartbeats 4000000 in
theorem kJ3_ckR {l : Launch} {D : va_G} {cI cJ : ClassId} {adK adV tK : Nat → Nat} {tx : Nat} {p0 : Int32} {p1 : Int32} {W0 : va_W} {r : Int32} (h : FJ3_checkIndex_8e157 p0 p1 = some r) : gMet l yJ3_checkIndex_8e157 qJ3_checkIndex_8e157 rmJ3_checkIndex_8e157 0 0 D vwCl [(cI, .int), (cJ, .long)] (mKS adK adV tK) [.int p0, .int p1, .ref tx] W0 W0 (some (.int r)) := by
  refine gMet.of (cc := cJ3_checkIndex_8e157) (maxL := 3) (ret := (some .int)) (by decide) rfl (Nat.le_of_ble_eq_true rfl) ?_
  intro p e s m args below meth c S hr hlk hnm hK hKS hA hB ls hl
  have hl : lv_has ls 3 [(0, .int p0), (1, .int p1), (2, .ref tx)] := hl
  replace S : CallFix p m c cJ3_checkIndex_8e157 3 s args (_ :: wsL_law) RJ3 := S
  rw [FJ3_checkIndex_8e157] at h
  have P9 : ∀ (x0 : Int32) (x1 : Int32) (H : Heap) (locs : List Loc) (ls : Array Slot), FJ3_checkIndex_8e157_9 x0 x1 = some r → gB D vwCl (va_A W0 s.heap.size) s.heap W0 [] H locs → lv_has ls 3 [(0, .int x0), (1, .int x1), (2, .ref tx)] → W p l e rmJ3_checkIndex_8e157 s m args below meth c H locs 0 0 (MQ below (gQ D vwCl W0 W0 (some (.int r)) s.heap.size) args s 0 0 (va_A W0 s.heap.size)) (F0 m 9 ls []) := by
    intro  x0 x1 H locs ls h hB hl
    rw [FJ3_checkIndex_8e157_9] at h
    cases h
  refine lv_iload_n S.1 S.2.1 dJ3_checkIndex_8e157_0 rfl (lv_at hl 0 rfl) ?_
  refine lv_if_lt (tgt := 9) S.1 S.2.1 dJ3_checkIndex_8e157_1 (by decide) (fun c_1 => ?_) (fun c_1 => ?_)
  · replace h := (if_pos c_1).symm.trans h
    exact P9  _ _ _ _ _ h hB hl
  · replace h := (if_neg c_1).symm.trans h
    refine lv_iload_n S.1 S.2.1 dJ3_checkIndex_8e157_4 rfl (lv_at hl 0 rfl) ?_
    refine lv_iload_n S.1 S.2.1 dJ3_checkIndex_8e157_5 rfl (lv_at hl 1 rfl) ?_
    refine lv_icmp_lt (tgt := 16) S.1 S.2.1 dJ3_checkIndex_8e157_6 (by decide) (fun c_2 => ?_) (fun c_2 => ?_)
    · replace h := (if_pos c_2).symm.trans h
      refine lv_iload_n S.1 S.2.1 dJ3_checkIndex_8e157_16 rfl (lv_at hl 0 rfl) ?_
      cases h
      exact gRetI S.1 S.2.1 hr hlk hB dJ3_checkIndex_8e157_17
    · replace h := (if_neg c_2).symm.trans h
      exact P9  _ _ _ _ _ h hB hl
theorem kJ3_ck {l : Launch} {D : va_G} {cI cJ : ClassId} {adK adV tK : Nat → Nat} {p0 p1 : Int32} {vx : Value} (hv : vx = .null ∨ ∃ t : Nat, vx = .ref t) {W0 : va_W} {r : Int32} (h : FJ3_checkIndex_8e157 p0 p1 = some r) : gMet l yJ3_checkIndex_8e157 qJ3_checkIndex_8e157 rmJ3_checkIndex_8e157 0 0 D vwCl [(cI, .int), (cJ, .long)] (mKS adK adV tK) [.int p0, .int p1, vx] W0 W0 (some (.int r)) := by
  rcases hv with rfl | ⟨tx, rfl⟩
  · exact kJ3_ckN h
  · exact kJ3_ckR h
def FJ0_checkIndex_df160 (p0 : Int32) (p1 : Int32) : Option Unit :=
  (FJ3_checkIndex_8e157 p0 p1).bind fun r_2 =>
  some ()
abbrev rmJ0_checkIndex_df160 : Room := { frames := 1, cells := 0, slots := 0, locals := 22 }
set_option maxRecDepth 100000 in
set_option maxHeartbeats 4000000 in
theorem kJ0_checkIndex_df160 {l : Launch} {D : va_G} {cI cJ : ClassId} {adK adV tK : Nat → Nat} {p0 : Int32} {p1 : Int32} {W0 : va_W} (h : FJ0_checkIndex_df160 p0 p1 = some ()) : gMet l yJ0_checkIndex_df160 qJ0_checkIndex_df160 rmJ0_checkIndex_df160 0 0 D vwCl [(cI, .int), (cJ, .long)] (mKS adK adV tK) [.int p0, .int p1] W0 W0 none := by
  refine gMet.of (cc := cJ0_checkIndex_df160) (maxL := 2) (ret := none) (by decide) rfl (Nat.le_of_ble_eq_true rfl) ?_
  intro p e s m args below meth c S hr hlk hnm hK hKS hA hB ls hl
  have hl : lv_has ls 2 [(0, .int p0), (1, .int p1)] := hl
  replace S : CallFix p m c cJ0_checkIndex_df160 2 s args (_ :: wsL_law) RJ0 := S
  rw [FJ0_checkIndex_df160] at h
  refine lv_iload_n S.1 S.2.1 dJ0_checkIndex_df160_0 rfl (lv_at hl 0 rfl) ?_
  refine lv_iload_n S.1 S.2.1 dJ0_checkIndex_df160_1 rfl (lv_at hl 1 rfl) ?_
  obtain ⟨v_1, hv_1, hZ_1⟩ := va_Zqv hKS.2.2.2.1
  refine va_gets S.1 S.2.1 hZ_1 hB.2.2 S.2.2.2.1 (S.2.2.2.2 _ (List.mem_cons_of_mem _ wf_J0_1053)) (fun _ h => h) dJ0_checkIndex_df160_2 ?_
  obtain ⟨r_2, e_2, h⟩ := bnd h
  refine gCallSI S hK mKSc hKS hA (kJ3_ck hv_1 e_2) (cwJ0_1059 S.2.2.2.2 (rm := rmJ3_checkIndex_8e157) rfl rfl ⟨Nat.le_of_ble_eq_true rfl, Nat.le_of_ble_eq_true rfl⟩) hB rfl hl.1 rfl (lv_room (Nat.le_of_ble_eq_true rfl)) dJ0_checkIndex_df160_5 ⟨Nat.zero_le _, Nat.zero_le _⟩ (fun H locs hB => ?_)
  refine lv_pop S.1 S.2.1 dJ0_checkIndex_df160_8 rfl ?_
  cases h
  exact gRetV S.1 S.2.1 hr hlk hB dJ0_checkIndex_df160_9
def FJ1_charAt_3b067 (w : Nat) (p1 : Int32) : Option Int32 :=
  (FJ0_checkIndex_df160 p1 (sLen w)).bind fun (_ : Unit) =>
  if (p1 < 0 ∨ SLEN.getD w 0 ≤ p1.toNatClampNeg) then none else
  some ((((sByt w p1.toNatClampNeg) &&& (255 : Int32)).toUInt32 % 65536).toInt32)
abbrev rmJ1_charAt_3b067 : Room := { frames := 2, cells := 0, slots := 0, locals := 43 }
set_option maxRecDepth 100000 in
set_option maxHeartbeats 4000000 in
theorem kJ1_charAt_3b067 {l : Launch} {D : va_G} {cI cJ : ClassId} {adK adV tK : Nat → Nat} {w : Nat} {p1 : Int32} (hw : wS w) {W0 : va_W} {r : Int32} (h : FJ1_charAt_3b067 w p1 = some r) : gMet l yJ1_charAt_3b067 qJ1_charAt_3b067 rmJ1_charAt_3b067 0 0 D vwCl [(cI, .int), (cJ, .long)] (mKS adK adV tK) [.ref (adV w), .int p1] W0 W0 (some (.int r)) := by
  refine gMet.of (cc := cJ1_charAt_3b067) (maxL := 2) (ret := (some .char)) (by decide) rfl (Nat.le_of_ble_eq_true rfl) ?_
  intro p e s m args below meth c S hr hlk hnm hK hKS hA hB ls hl
  have hl : lv_has ls 2 [(0, .ref (adV w)), (1, .int p1)] := hl
  replace S : CallFix p m c cJ1_charAt_3b067 2 s args (_ :: wsL_law) RJ1 := S
  rw [FJ1_charAt_3b067] at h
  refine lv_iload_n S.1 S.2.1 dJ1_charAt_3b067_0 rfl (lv_at hl 1 rfl) ?_
  refine lv_aload_n S.1 S.2.1 dJ1_charAt_3b067_1 rfl (lv_at hl 0 rfl) ?_
  refine va_tlen (v := sLen w) S.1 S.2.1 (hKS.1 w hw).2.2.2 hB.2.2 rfl dJ1_charAt_3b067_2 ?_
  obtain ⟨_, e_1, h⟩ := bnd h
  refine gCallSV S hK mKSc hKS hA (kJ0_checkIndex_df160 e_1) (cwJ1_9 S.2.2.2.2 (rm := rmJ0_checkIndex_df160) rfl rfl ⟨Nat.le_of_ble_eq_true rfl, Nat.le_of_ble_eq_true rfl⟩) hB rfl hl.1 rfl (lv_room (Nat.le_of_ble_eq_true rfl)) dJ1_charAt_3b067_3 ⟨Nat.zero_le _, Nat.zero_le _⟩ (fun H locs hB => ?_)
  refine lv_aload_n S.1 S.2.1 dJ1_charAt_3b067_6 rfl (lv_at hl 0 rfl) ?_
  refine lv_iload_n S.1 S.2.1 dJ1_charAt_3b067_7 rfl (lv_at hl 1 rfl) ?_
  obtain ⟨b_2, h⟩ := gd h
  refine va_tb (v := .int (sByt w p1.toNatClampNeg)) S.1 S.2.1 (hKS.1 w hw).2.2.2 hB.2.2 b_2 rfl dJ1_charAt_3b067_8 ?_
  refine lv_sipush (v := (255 : Int32)) S.1 S.2.1 dJ1_charAt_3b067_9 (by decide) ?_
  refine lv_iand S.1 S.2.1 dJ1_charAt_3b067_12 ?_
  refine lv_i2c (v := (((sByt w p1.toNatClampNeg) &&& (255 : Int32)).toUInt32 % 65536).toInt32) S.1 S.2.1 dJ1_charAt_3b067_13 rfl ?_
  cases h
  exact gRetZ S.1 S.2.1 hr hlk hB (pk_nc _) dJ1_charAt_3b067_14
def FJ0_coder_7d493 (w : Nat) : Option Int32 :=
  some (0 : Int32)
abbrev rmJ0_coder_7d493 : Room := { frames := 0, cells := 0, slots := 0, locals := 0 }
set_option maxRecDepth 100000 in
set_option maxHeartbeats 4000000 in
theorem kJ0_coder_7d493 {l : Launch} {D : va_G} {cI cJ : ClassId} {adK adV tK : Nat → Nat} {w : Nat} (hw : wS w) {W0 : va_W} {r : Int32} (h : FJ0_coder_7d493 w = some r) : gMet l yJ0_coder_7d493 qJ0_coder_7d493 rmJ0_coder_7d493 0 0 D vwCl [(cI, .int), (cJ, .long)] (mKS adK adV tK) [.ref (adK w)] W0 W0 (some (.int r)) := by
  refine gMet.of (cc := cJ0_coder_7d493) (maxL := 1) (ret := (some .byte)) (by decide) rfl (Nat.le_of_ble_eq_true rfl) ?_
  intro p e s m args below meth c S hr hlk hnm hK hKS hA hB ls hl
  have hl : lv_has ls 1 [(0, .ref (adK w))] := hl
  replace S : CallFix p m c cJ0_coder_7d493 1 s args (_ :: wsL_law) RJ0 := S
  rw [FJ0_coder_7d493] at h
  refine va_gets S.1 S.2.1 hKS.2.2.1 hB.2.2 S.2.2.2.1 (S.2.2.2.2 _ (List.mem_cons_of_mem _ wf_J0_38)) (fun _ h => h) dJ0_coder_7d493_0 ?_
  refine lv_if_eq (tgt := 13) S.1 S.2.1 dJ0_coder_7d493_3 (by decide) (fun c => absurd c (by decide)) (fun c => ?_)
  refine lv_aload_n S.1 S.2.1 dJ0_coder_7d493_6 rfl (lv_at hl 0 rfl) ?_
  refine vk_getf S.1 S.2.1 (hKS.1 w hw).2.1 hB.2.2 S.2.2.2.1 (S.2.2.2.2 _ (List.mem_cons_of_mem _ wf_J0_15)) (fun _ h => h) dJ0_coder_7d493_7 ?_
  refine lv_goto (tgt := 14) S.1 S.2.1 dJ0_coder_7d493_10 (by decide) ?_
  cases h
  exact gRetZ S.1 S.2.1 hr hlk hB rfl dJ0_coder_7d493_14
theorem cnJ0_coder_7d493 {w : Nat} : FJ0_coder_7d493 w = some (0 : Int32) := rfl
def FJ0_isLatin1_aae02 (w : Nat) : Option Int32 :=
  some (1 : Int32)
abbrev rmJ0_isLatin1_aae02 : Room := { frames := 0, cells := 0, slots := 0, locals := 0 }
set_option maxRecDepth 100000 in
set_option maxHeartbeats 4000000 in
theorem kJ0_isLatin1_aae02 {l : Launch} {D : va_G} {cI cJ : ClassId} {adK adV tK : Nat → Nat} {w : Nat} (hw : wS w) {W0 : va_W} {r : Int32} (h : FJ0_isLatin1_aae02 w = some r) : gMet l yJ0_isLatin1_aae02 qJ0_isLatin1_aae02 rmJ0_isLatin1_aae02 0 0 D vwCl [(cI, .int), (cJ, .long)] (mKS adK adV tK) [.ref (adK w)] W0 W0 (some (.int r)) := by
  refine gMet.of (cc := cJ0_isLatin1_aae02) (maxL := 1) (ret := (some .boolean)) (by decide) rfl (Nat.le_of_ble_eq_true rfl) ?_
  intro p e s m args below meth c S hr hlk hnm hK hKS hA hB ls hl
  have hl : lv_has ls 1 [(0, .ref (adK w))] := hl
  replace S : CallFix p m c cJ0_isLatin1_aae02 1 s args (_ :: wsL_law) RJ0 := S
  rw [FJ0_isLatin1_aae02] at h
  refine va_gets S.1 S.2.1 hKS.2.2.1 hB.2.2 S.2.2.2.1 (S.2.2.2.2 _ (List.mem_cons_of_mem _ wf_J0_38)) (fun _ h => h) dJ0_isLatin1_aae02_0 ?_
  refine lv_if_eq (tgt := 17) S.1 S.2.1 dJ0_isLatin1_aae02_3 (by decide) (fun c => absurd c (by decide)) (fun c => ?_)
  refine lv_aload_n S.1 S.2.1 dJ0_isLatin1_aae02_6 rfl (lv_at hl 0 rfl) ?_
  refine vk_getf S.1 S.2.1 (hKS.1 w hw).2.1 hB.2.2 S.2.2.2.1 (S.2.2.2.2 _ (List.mem_cons_of_mem _ wf_J0_15)) (fun _ h => h) dJ0_isLatin1_aae02_7 ?_
  refine lv_if_ne (tgt := 17) S.1 S.2.1 dJ0_isLatin1_aae02_10 (by decide) (fun c => absurd (by decide) c) (fun c => ?_)
  refine lv_iconst (v := (1 : Int32)) S.1 S.2.1 dJ0_isLatin1_aae02_13 (by decide) ?_
  refine lv_goto (tgt := 18) S.1 S.2.1 dJ0_isLatin1_aae02_14 (by decide) ?_
  cases h
  exact gRetZ S.1 S.2.1 hr hlk hB rfl dJ0_isLatin1_aae02_18
theorem cnJ0_isLatin1_aae02 {w : Nat} : FJ0_isLatin1_aae02 w = some (1 : Int32) := rfl
def FJ0_length_8abf5 (w : Nat) : Option Int32 :=
  some ((sLen w) >>> ((0 : Int32) &&& 31))
abbrev rmJ0_length_8abf5 : Room := { frames := 1, cells := 0, slots := 0, locals := 20 }
set_option maxRecDepth 100000 in
set_option maxHeartbeats 4000000 in
theorem kJ0_length_8abf5 {l : Launch} {D : va_G} {cI cJ : ClassId} {adK adV tK : Nat → Nat} {w : Nat} (hw : wS w) {W0 : va_W} {r : Int32} (h : FJ0_length_8abf5 w = some r) : gMet l yJ0_length_8abf5 qJ0_length_8abf5 rmJ0_length_8abf5 0 0 D vwCl [(cI, .int), (cJ, .long)] (mKS adK adV tK) [.ref (adK w)] W0 W0 (some (.int r)) := by
  refine gMet.of (cc := cJ0_length_8abf5) (maxL := 1) (ret := (some .int)) (by decide) rfl (Nat.le_of_ble_eq_true rfl) ?_
  intro p e s m args below meth c S hr hlk hnm hK hKS hA hB ls hl
  have hl : lv_has ls 1 [(0, .ref (adK w))] := hl
  replace S : CallFix p m c cJ0_length_8abf5 1 s args (_ :: wsL_law) RJ0 := S
  rw [FJ0_length_8abf5] at h
  refine lv_aload_n S.1 S.2.1 dJ0_length_8abf5_0 rfl (lv_at hl 0 rfl) ?_
  refine vk_getf S.1 S.2.1 (hKS.1 w hw).2.2.1 hB.2.2 S.2.2.2.1 (S.2.2.2.2 _ (List.mem_cons_of_mem _ wf_J0_9)) (fun _ h => h) dJ0_length_8abf5_1 ?_
  refine va_tlen (v := sLen w) S.1 S.2.1 (hKS.1 w hw).2.2.2 hB.2.2 rfl dJ0_length_8abf5_4 ?_
  refine lv_aload_n S.1 S.2.1 dJ0_length_8abf5_5 rfl (lv_at hl 0 rfl) ?_
  refine mCallTI S hK mKSc hKS hA (kJ0_coder_7d493 hw cnJ0_coder_7d493) (cwJ0_335 S.2.2.2.2 (rm := rmJ0_coder_7d493) rfl rfl ⟨Nat.le_of_ble_eq_true rfl, Nat.le_of_ble_eq_true rfl⟩) (sRecv hKS.1 hw hB.2.2) hB rfl hl.1 rfl (lv_room (Nat.le_of_ble_eq_true rfl)) dJ0_length_8abf5_6 ⟨Nat.zero_le _, Nat.zero_le _⟩ (fun H locs hB => ?_)
  refine lv_ishr S.1 S.2.1 dJ0_length_8abf5_9 ?_
  cases h
  exact gRetI S.1 S.2.1 hr hlk hB dJ0_length_8abf5_10
theorem nchJ1 {w : Nat} {i r : Int32} (h : FJ1_charAt_3b067 w i = some r) : narrow .char (.int r) = .int r := by
  rw [FJ1_charAt_3b067] at h
  obtain ⟨_, _, h⟩ := bnd h
  obtain ⟨_, h⟩ := gd h
  cases h
  exact pk_nc _
def FJ0_charAt_5068e (w : Nat) (p0 : Int32) : Option Int32 :=
  (FJ1_charAt_3b067 w p0).bind fun r_3 =>
  some r_3
abbrev rmJ0_charAt_5068e : Room := { frames := 3, cells := 0, slots := 0, locals := 64 }
set_option maxRecDepth 100000 in
set_option maxHeartbeats 4000000 in
theorem kJ0_charAt_5068e {l : Launch} {D : va_G} {cI cJ : ClassId} {adK adV tK : Nat → Nat} {w : Nat} {p0 : Int32} (hw : wS w) {W0 : va_W} {r : Int32} (h : FJ0_charAt_5068e w p0 = some r) : gMet l yJ0_charAt_5068e qJ0_charAt_5068e rmJ0_charAt_5068e 0 0 D vwCl [(cI, .int), (cJ, .long)] (mKS adK adV tK) [.ref (adK w), .int p0] W0 W0 (some (.int r)) := by
  refine gMet.of (cc := cJ0_charAt_5068e) (maxL := 2) (ret := (some .char)) (by decide) rfl (Nat.le_of_ble_eq_true rfl) ?_
  intro p e s m args below meth c S hr hlk hnm hK hKS hA hB ls hl
  have hl : lv_has ls 2 [(0, .ref (adK w)), (1, .int p0)] := hl
  replace S : CallFix p m c cJ0_charAt_5068e 2 s args (_ :: wsL_law) RJ0 := S
  rw [FJ0_charAt_5068e] at h
  refine lv_aload_n S.1 S.2.1 dJ0_charAt_5068e_0 rfl (lv_at hl 0 rfl) ?_
  refine mCallTI S hK mKSc hKS hA (kJ0_isLatin1_aae02 hw cnJ0_isLatin1_aae02) (cwJ0_492 S.2.2.2.2 (rm := rmJ0_isLatin1_aae02) rfl rfl ⟨Nat.le_of_ble_eq_true rfl, Nat.le_of_ble_eq_true rfl⟩) (sRecv hKS.1 hw hB.2.2) hB rfl hl.1 rfl (lv_room (Nat.le_of_ble_eq_true rfl)) dJ0_charAt_5068e_1 ⟨Nat.zero_le _, Nat.zero_le _⟩ (fun H locs hB => ?_)
  refine lv_if_eq (tgt := 16) S.1 S.2.1 dJ0_charAt_5068e_4 (by decide) (fun c => absurd c (by decide)) (fun c => ?_)
  refine lv_aload_n S.1 S.2.1 dJ0_charAt_5068e_7 rfl (lv_at hl 0 rfl) ?_
  refine vk_getf S.1 S.2.1 (hKS.1 w hw).2.2.1 hB.2.2 S.2.2.2.1 (S.2.2.2.2 _ (List.mem_cons_of_mem _ wf_J0_9)) (fun _ h => h) dJ0_charAt_5068e_8 ?_
  refine lv_iload_n S.1 S.2.1 dJ0_charAt_5068e_11 rfl (lv_at hl 1 rfl) ?_
  obtain ⟨r_3, e_3, h⟩ := bnd h
  refine gCallSI S hK mKSc hKS hA (kJ1_charAt_3b067 hw e_3) (cwJ0_495 S.2.2.2.2 (rm := rmJ1_charAt_3b067) rfl rfl ⟨Nat.le_of_ble_eq_true rfl, Nat.le_of_ble_eq_true rfl⟩) hB rfl hl.1 rfl (lv_room (Nat.le_of_ble_eq_true rfl)) dJ0_charAt_5068e_12 ⟨Nat.zero_le _, Nat.zero_le _⟩ (fun H locs hB => ?_)
  cases h
  exact gRetZ S.1 S.2.1 hr hlk hB (nchJ1 e_3) dJ0_charAt_5068e_15
def FJ1_canEncode_9a6ad (p0 : Int32) : Option Int32 :=
  if p0 < 0 then
    some (0 : Int32)
  else
    if (255 : Int32) < p0 then
      some (0 : Int32)
    else
      some (1 : Int32)
def FJ1_indexOfChar_4cfef_7 (L : Nat) (w : Nat)  : Nat → Int32 → Int32 → Int32 → Option Int32
  | 0, _, _, _ => none
  | n+1, x3, x4, x5 =>
    if x3 ≤ x5 then
      some (-1 : Int32)
    else
      if (x5 < 0 ∨ SLEN.getD w 0 ≤ x5.toNatClampNeg) then none else
      if (sByt w x5.toNatClampNeg) = x4 then
        some x5
      else
        (FJ1_indexOfChar_4cfef_7 L w n) x3 x4 (x5 + (1 : Int32))
def FJ1_indexOfChar_4cfef (L : Nat) (w : Nat) (p1 : Int32) (p2 : Int32) (p3 : Int32) : Option Int32 :=
  FJ1_indexOfChar_4cfef_7 L w L p3 (p1.toInt8.toInt32) p2
def FJ1_indexOf_4cfef (L : Nat) (w : Nat) (p1 : Int32) (p2 : Int32) (p3 : Int32) : Option Int32 :=
  (FJ1_canEncode_9a6ad p1).bind fun r_1 =>
  if r_1 = 0 then
    some (-1 : Int32)
  else
    if (if p2 < (0 : Int32) then (0 : Int32) else p2) < (if (sLen w) < p3 then (sLen w) else p3) then
      (FJ1_indexOfChar_4cfef L w p1 (if p2 < (0 : Int32) then (0 : Int32) else p2) (if (sLen w) < p3 then (sLen w) else p3)).bind fun r_4 =>
      some r_4
    else
      some (-1 : Int32)
def FJ0_indexOf_7cf53 (L : Nat) (w : Nat) (p0 : Int32) (p1 : Int32) : Option Int32 :=
  (FJ0_length_8abf5 w).bind fun r_3 =>
  (FJ1_indexOf_4cfef L w p0 p1 r_3).bind fun r_4 =>
  some r_4
def FJ0_indexOf_0f7a4 (L : Nat) (w : Nat) (p0 : Int32) : Option Int32 :=
  (FJ0_indexOf_7cf53 L w p0 (0 : Int32)).bind fun r_1 =>
  some r_1
