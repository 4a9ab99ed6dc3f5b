abbrev RC : Type := Nat → Int32 → Int32 → Nat → MS → Option (Int32 × MS)
abbrev rmSC3 (d : Nat) : Room := { frames := d + 20, cells := 0, slots := 0, locals := 40 * d + 400 }
def SC3 (l : Launch) (D : va_G) (cI cJ : ClassId) (ad adK adV tK : Nat → Nat) (d : Nat) (rc : RC) : Prop :=
  (∀ {a : Int32} {b : Int32} {σ σ' : MS} {r : Int32}, rc 0 a b 0 σ = some (r, σ') → gMet l yX11_reason qX11_reason (rmSC3 d) 0 0 D vwCl [(cI, .int), (cJ, .long)] (mKS adK adV tK) [.ref (ad 0), .int a, .int b] (MW cI cJ ad σ) (MW cI cJ ad σ') (some (.int r)))
def FX11_reason (rc : RC) (L : Nat) (p0 : Int32) (p1 : Int32) (σ : MS) : Option (Int32 × MS) :=
  if (p0 < 0 ∨ 1203 ≤ p0.toNatClampNeg) then none else
  if (p0 < 0 ∨ 1203 ≤ p0.toNatClampNeg) then none else
  if (p0 < 0 ∨ 1203 ≤ p0.toNatClampNeg) then none else
  if (σ.2.1 9 p0.toNatClampNeg) = 5 then
    b2 (FX11_firstMiss L p0 p1 σ) fun r_5 σ_5 =>
    b2 (rc 0 (σ.2.1 10 p0.toNatClampNeg) r_5 0 σ_5) fun r_6 σ_6 =>
    some (r_6, σ_6)
  else if (σ.2.1 9 p0.toNatClampNeg) = 8 then
    b2 (rc 0 (σ.2.1 10 p0.toNatClampNeg) p1 0 σ) fun r_8 σ_8 =>
    some (r_8, σ_8)
  else if (σ.2.1 9 p0.toNatClampNeg) = 11 then
    b2 (FX11_holds (σ.2.1 10 p0.toNatClampNeg) p1 σ) fun r_10 σ_10 =>
    if r_10 = 0 then
      b2 (rc 0 (σ.2.1 10 p0.toNatClampNeg) p1 0 σ_10) fun r_12 σ_12 =>
      some (r_12, σ_12)
    else
      b2 (rc 0 (σ.2.1 11 p0.toNatClampNeg) p1 0 σ_10) fun r_13 σ_13 =>
      some (r_13, σ_13)
  else if (σ.2.1 9 p0.toNatClampNeg) = 12 then
    b2 (rc 0 (σ.2.1 11 p0.toNatClampNeg) p1 0 σ) fun r_15 σ_15 =>
    some (r_15, σ_15)
  else if (σ.2.1 9 p0.toNatClampNeg) = 13 then
    b2 (rc 0 (σ.2.1 11 p0.toNatClampNeg) p1 0 σ) fun r_17 σ_17 =>
    some (r_17, σ_17)
  else 
    if (p0 < 0 ∨ 1203 ≤ p0.toNatClampNeg) then none else
    if (σ.2.1 9 p0.toNatClampNeg) = (1 : Int32) then
      if p1 ≤ 0 then
        if (p0 < 0 ∨ 1203 ≤ p0.toNatClampNeg) then none else
        some ((σ.2.1 15 p0.toNatClampNeg), (sI σ 39 p1))
      else
        b2 (rc 0 (σ.2.1 10 p0.toNatClampNeg) (p1 - (1 : Int32)) 0 σ) fun r_23 σ_23 =>
        some (r_23, σ_23)
    else
      if (p0 < 0 ∨ 1203 ≤ p0.toNatClampNeg) then none else
      some ((σ.2.1 15 p0.toNatClampNeg), (sI σ 39 p1))
set_option maxRecDepth 100000 in
set_option maxHeartbeats 4000000 in
theorem kX11_reason {l : Launch} {D : va_G} {cI cJ : ClassId} {ad : Nat → Nat} {adK adV tK : Nat → Nat} {L : Nat} {d : Nat} {rc : RC} (hrc : SC3 l D cI cJ ad adK adV tK d rc) {p0 : Int32} {p1 : Int32} {σ σ' : MS} {r : Int32} (h : FX11_reason rc L p0 p1 σ = some (r, σ')) : gMet l yX11_reason qX11_reason (rmSC3 (d + 1)) 0 0 D vwCl [(cI, .int), (cJ, .long)] (mKS adK adV tK) [.ref (ad 0), .int p0, .int p1] (MW cI cJ ad σ) (MW cI cJ ad σ') (some (.int r)) := by
  refine gMet.of (cc := cX11_reason) (maxL := 5) (ret := (some .int)) (by decide) rfl (Nat.le_of_ble_eq_true rfl) ?_
  intro p e s m args below meth c S hr hlk hnm hK hKS hA hB ls hl
  have hl : lv_has ls 5 [(0, .ref (ad 0)), (1, .int p0), (2, .int p1)] := hl
  replace S : CallFix p m c cX11_reason 5 s args (_ :: wsL_law) RX11 := S
  rw [FX11_reason] at h
  refine lv_aload_n S.1 S.2.1 dX11_reason_0 rfl (lv_at hl 0 rfl) ?_
  refine mg_first S hK hB wf_X11_29 dX11_reason_1 ?_
  refine lv_iload_n S.1 S.2.1 dX11_reason_4 rfl (lv_at hl 1 rfl) ?_
  obtain ⟨b_1, h⟩ := gd h
  refine ml_first (v := (σ.2.1 10 p0.toNatClampNeg)) S hK hB b_1 rfl dX11_reason_5 ?_
  refine lv_istore_n (lv' := [(3, .int (σ.2.1 10 p0.toNatClampNeg)), (0, .ref (ad 0)), (1, .int p0), (2, .int p1)]) S.1 S.2.1 dX11_reason_6 rfl hl (by decide) rfl (fun ls hl => ?_)
  refine lv_aload_n S.1 S.2.1 dX11_reason_7 rfl (lv_at hl 1 rfl) ?_
  refine mg_second S hK hB wf_X11_32 dX11_reason_8 ?_
  refine lv_iload_n S.1 S.2.1 dX11_reason_11 rfl (lv_at hl 2 rfl) ?_
  obtain ⟨b_2, h⟩ := gd h
  refine ml_second (v := (σ.2.1 11 p0.toNatClampNeg)) S hK hB b_2 rfl dX11_reason_12 ?_
  refine lv_istore (lv' := [(4, .int (σ.2.1 11 p0.toNatClampNeg)), (3, .int (σ.2.1 10 p0.toNatClampNeg)), (0, .ref (ad 0)), (1, .int p0), (2, .int p1)]) S.1 S.2.1 dX11_reason_13 hl (by decide) rfl (fun ls hl => ?_)
  refine lv_aload_n S.1 S.2.1 dX11_reason_15 rfl (lv_at hl 2 rfl) ?_
  refine mg_kind S hK hB wf_X11_26 dX11_reason_16 ?_
  refine lv_iload_n S.1 S.2.1 dX11_reason_19 rfl (lv_at hl 3 rfl) ?_
  obtain ⟨b_3, h⟩ := gd h
  refine ml_kind (v := (σ.2.1 9 p0.toNatClampNeg)) S hK hB b_3 rfl dX11_reason_20 ?_
  by_cases c_4 : (σ.2.1 9 p0.toNatClampNeg) = 5
  · replace h := (if_pos c_4).symm.trans h
    refine lv_tableIn (off := 80) (tgt := 101) S.1 S.2.1 dX11_reason_21 (by rw [c_4]; decide) (by rw [c_4]; decide) (by rw [c_4]; rfl) (by decide) ?_
    refine lv_aload_n S.1 S.2.1 dX11_reason_101 rfl (lv_at hl 2 rfl) ?_
    refine lv_iload_n S.1 S.2.1 dX11_reason_102 rfl (lv_at hl 1 rfl) ?_
    refine lv_aload_n S.1 S.2.1 dX11_reason_103 rfl (lv_at hl 2 rfl) ?_
    refine lv_iload_n S.1 S.2.1 dX11_reason_104 rfl (lv_at hl 3 rfl) ?_
    refine lv_iload_n S.1 S.2.1 dX11_reason_105 rfl (lv_at hl 4 rfl) ?_
    obtain ⟨r_5, σ_5, e_5, h⟩ := b2s h
    refine mCallI S hK mKSc hKS hA (kX11_firstMiss mKSc e_5) (cwX11_413 S.2.2.2.2 (rm := rmX11_firstMiss) rfl rfl ⟨by dsimp only [rmSC3, rmX11_firstMiss]; omega, by dsimp only [rmSC3, rmX11_firstMiss]; omega⟩) hB rfl hl.1 rfl (lv_room (Nat.le_of_ble_eq_true rfl)) dX11_reason_106 ⟨Nat.zero_le _, Nat.zero_le _⟩ (fun H locs hB => ?_)
    obtain ⟨r_6, σ_6, e_6, h⟩ := b2s h
    refine mCallI S hK mKSc hKS hA (hrc e_6) (cwX11_471 S.2.2.2.2 (rm := (rmSC3 d)) rfl rfl ⟨by dsimp only [rmSC3]; omega, by dsimp only [rmSC3]; omega⟩) hB rfl hl.1 rfl (lv_room (Nat.le_of_ble_eq_true rfl)) dX11_reason_109 ⟨Nat.zero_le _, Nat.zero_le _⟩ (fun H locs hB => ?_)
    cases h
    exact gRetI S.1 S.2.1 hr hlk hB dX11_reason_112
  · replace h := (if_neg c_4).symm.trans h
    by_cases c_7 : (σ.2.1 9 p0.toNatClampNeg) = 8
    · replace h := (if_pos c_7).symm.trans h
      refine lv_tableIn (off := 92) (tgt := 113) S.1 S.2.1 dX11_reason_21 (by rw [c_7]; decide) (by rw [c_7]; decide) (by rw [c_7]; rfl) (by decide) ?_
      refine lv_aload_n S.1 S.2.1 dX11_reason_113 rfl (lv_at hl 2 rfl) ?_
      refine lv_iload_n S.1 S.2.1 dX11_reason_114 rfl (lv_at hl 1 rfl) ?_
      refine lv_iload_n S.1 S.2.1 dX11_reason_115 rfl (lv_at hl 4 rfl) ?_
      obtain ⟨r_8, σ_8, e_8, h⟩ := b2s h
      refine mCallI S hK mKSc hKS hA (hrc e_8) (cwX11_471 S.2.2.2.2 (rm := (rmSC3 d)) rfl rfl ⟨by dsimp only [rmSC3]; omega, by dsimp only [rmSC3]; omega⟩) hB rfl hl.1 rfl (lv_room (Nat.le_of_ble_eq_true rfl)) dX11_reason_116 ⟨Nat.zero_le _, Nat.zero_le _⟩ (fun H locs hB => ?_)
      cases h
      exact gRetI S.1 S.2.1 hr hlk hB dX11_reason_119
    · replace h := (if_neg c_7).symm.trans h
      by_cases c_9 : (σ.2.1 9 p0.toNatClampNeg) = 11
      · replace h := (if_pos c_9).symm.trans h
        refine lv_tableIn (off := 51) (tgt := 72) S.1 S.2.1 dX11_reason_21 (by rw [c_9]; decide) (by rw [c_9]; decide) (by rw [c_9]; rfl) (by decide) ?_
        refine lv_aload_n S.1 S.2.1 dX11_reason_72 rfl (lv_at hl 2 rfl) ?_
        refine lv_aload_n S.1 S.2.1 dX11_reason_73 rfl (lv_at hl 2 rfl) ?_
        refine lv_iload_n S.1 S.2.1 dX11_reason_74 rfl (lv_at hl 1 rfl) ?_
        refine lv_iload_n S.1 S.2.1 dX11_reason_75 rfl (lv_at hl 4 rfl) ?_
        obtain ⟨r_10, σ_10, e_10, h⟩ := b2s h
        refine mCallI S hK mKSc hKS hA (kX11_holds mKSc e_10) (cwX11_407 S.2.2.2.2 (rm := rmX11_holds) rfl rfl ⟨by dsimp only [rmSC3, rmX11_holds]; omega, by dsimp only [rmSC3, rmX11_holds]; omega⟩) hB rfl hl.1 rfl (lv_room (Nat.le_of_ble_eq_true rfl)) dX11_reason_76 ⟨Nat.zero_le _, Nat.zero_le _⟩ (fun H locs hB => ?_)
        refine lv_if_eq (tgt := 87) S.1 S.2.1 dX11_reason_79 (by decide) (fun c_11 => ?_) (fun c_11 => ?_)
        · replace h := (if_pos c_11).symm.trans h
          refine lv_iload_n S.1 S.2.1 dX11_reason_87 rfl (lv_at hl 1 rfl) ?_
          refine lv_iload_n S.1 S.2.1 dX11_reason_88 rfl (lv_at hl 4 rfl) ?_
          obtain ⟨r_12, σ_12, e_12, h⟩ := b2s h
          refine mCallI S hK mKSc hKS hA (hrc e_12) (cwX11_471 S.2.2.2.2 (rm := (rmSC3 d)) rfl rfl ⟨by dsimp only [rmSC3]; omega, by dsimp only [rmSC3]; omega⟩) hB rfl hl.1 rfl (lv_room (Nat.le_of_ble_eq_true rfl)) dX11_reason_89 ⟨Nat.zero_le _, Nat.zero_le _⟩ (fun H locs hB => ?_)
          cases h
          exact gRetI S.1 S.2.1 hr hlk hB dX11_reason_92
        · replace h := (if_neg c_11).symm.trans h
          refine lv_iload S.1 S.2.1 dX11_reason_82 (lv_at hl 0 rfl) ?_
          refine lv_goto (tgt := 88) S.1 S.2.1 dX11_reason_84 (by decide) ?_
          refine lv_iload_n S.1 S.2.1 dX11_reason_88 rfl (lv_at hl 4 rfl) ?_
          obtain ⟨r_13, σ_13, e_13, h⟩ := b2s h
          refine mCallI S hK mKSc hKS hA (hrc e_13) (cwX11_471 S.2.2.2.2 (rm := (rmSC3 d)) rfl rfl ⟨by dsimp only [rmSC3]; omega, by dsimp only [rmSC3]; omega⟩) hB rfl hl.1 rfl (lv_room (Nat.le_of_ble_eq_true rfl)) dX11_reason_89 ⟨Nat.zero_le _, Nat.zero_le _⟩ (fun H locs hB => ?_)
          cases h
          exact gRetI S.1 S.2.1 hr hlk hB dX11_reason_92
      · replace h := (if_neg c_9).symm.trans h
        by_cases c_14 : (σ.2.1 9 p0.toNatClampNeg) = 12
        · replace h := (if_pos c_14).symm.trans h
          refine lv_tableIn (off := 72) (tgt := 93) S.1 S.2.1 dX11_reason_21 (by rw [c_14]; decide) (by rw [c_14]; decide) (by rw [c_14]; rfl) (by decide) ?_
          refine lv_aload_n S.1 S.2.1 dX11_reason_93 rfl (lv_at hl 2 rfl) ?_
          refine lv_iload S.1 S.2.1 dX11_reason_94 (lv_at hl 0 rfl) ?_
          refine lv_iload_n S.1 S.2.1 dX11_reason_96 rfl (lv_at hl 4 rfl) ?_
          obtain ⟨r_15, σ_15, e_15, h⟩ := b2s h
          refine mCallI S hK mKSc hKS hA (hrc e_15) (cwX11_471 S.2.2.2.2 (rm := (rmSC3 d)) rfl rfl ⟨by dsimp only [rmSC3]; omega, by dsimp only [rmSC3]; omega⟩) hB rfl hl.1 rfl (lv_room (Nat.le_of_ble_eq_true rfl)) dX11_reason_97 ⟨Nat.zero_le _, Nat.zero_le _⟩ (fun H locs hB => ?_)
          cases h
          exact gRetI S.1 S.2.1 hr hlk hB dX11_reason_100
        · replace h := (if_neg c_14).symm.trans h
          by_cases c_16 : (σ.2.1 9 p0.toNatClampNeg) = 13
          · replace h := (if_pos c_16).symm.trans h
            refine lv_tableIn (off := 72) (tgt := 93) S.1 S.2.1 dX11_reason_21 (by rw [c_16]; decide) (by rw [c_16]; decide) (by rw [c_16]; rfl) (by decide) ?_
            refine lv_aload_n S.1 S.2.1 dX11_reason_93 rfl (lv_at hl 2 rfl) ?_
            refine lv_iload S.1 S.2.1 dX11_reason_94 (lv_at hl 0 rfl) ?_
            refine lv_iload_n S.1 S.2.1 dX11_reason_96 rfl (lv_at hl 4 rfl) ?_
            obtain ⟨r_17, σ_17, e_17, h⟩ := b2s h
            refine mCallI S hK mKSc hKS hA (hrc e_17) (cwX11_471 S.2.2.2.2 (rm := (rmSC3 d)) rfl rfl ⟨by dsimp only [rmSC3]; omega, by dsimp only [rmSC3]; omega⟩) hB rfl hl.1 rfl (lv_room (Nat.le_of_ble_eq_true rfl)) dX11_reason_97 ⟨Nat.zero_le _, Nat.zero_le _⟩ (fun H locs hB => ?_)
            cases h
            exact gRetI S.1 S.2.1 hr hlk hB dX11_reason_100
          · replace h := (if_neg c_16).symm.trans h
            refine swT (tgt := 120) (cs := [5, 8, 11, 12, 13]) S.1 S.2.1 dX11_reason_21 (List.forall_mem_cons.mpr ⟨lv_neT c_4 (by decide), List.forall_mem_cons.mpr ⟨lv_neT c_7 (by decide), List.forall_mem_cons.mpr ⟨lv_neT c_9 (by decide), List.forall_mem_cons.mpr ⟨lv_neT c_14 (by decide), List.forall_mem_cons.mpr ⟨lv_neT c_16 (by decide), List.forall_mem_nil _⟩⟩⟩⟩⟩) (by decide) (by decide) (by decide) ?_
            refine lv_aload_n S.1 S.2.1 dX11_reason_120 rfl (lv_at hl 2 rfl) ?_
            refine mg_kind S hK hB wf_X11_26 dX11_reason_121 ?_
            refine lv_iload_n S.1 S.2.1 dX11_reason_124 rfl (lv_at hl 3 rfl) ?_
            obtain ⟨b_18, h⟩ := gd h
            refine ml_kind (v := (σ.2.1 9 p0.toNatClampNeg)) S hK hB b_18 rfl dX11_reason_125 ?_
            refine lv_iconst (v := (1 : Int32)) S.1 S.2.1 dX11_reason_126 (by decide) ?_
            refine lv_icmp_ne (tgt := 143) S.1 S.2.1 dX11_reason_127 (by decide) (fun c_19 => ?_) (fun c_19 => ?_)
            · replace h := (if_neg c_19).symm.trans h
              refine lv_aload_n S.1 S.2.1 dX11_reason_143 rfl (lv_at hl 2 rfl) ?_
              refine lv_iload_n S.1 S.2.1 dX11_reason_144 rfl (lv_at hl 4 rfl) ?_
              refine mp_reasonStep S hK hB wf_X11_474 dX11_reason_145 (fun H locs hB => ?_)
              refine lv_aload_n S.1 S.2.1 dX11_reason_148 rfl (lv_at hl 2 rfl) ?_
              refine mg_place S hK hB wf_X11_44 dX11_reason_149 ?_
              refine lv_iload_n S.1 S.2.1 dX11_reason_152 rfl (lv_at hl 3 rfl) ?_
              obtain ⟨b_20, h⟩ := gd h
              refine ml_place (v := (σ.2.1 15 p0.toNatClampNeg)) S hK hB b_20 rfl dX11_reason_153 ?_
              cases h
              exact gRetI S.1 S.2.1 hr hlk hB dX11_reason_154
            · replace h := (if_pos c_19).symm.trans h
              refine lv_iload_n S.1 S.2.1 dX11_reason_130 rfl (lv_at hl 4 rfl) ?_
              refine lv_if_le (tgt := 143) S.1 S.2.1 dX11_reason_131 (by decide) (fun c_21 => ?_) (fun c_21 => ?_)
              · replace h := (if_pos c_21).symm.trans h
                refine lv_aload_n S.1 S.2.1 dX11_reason_143 rfl (lv_at hl 2 rfl) ?_
                refine lv_iload_n S.1 S.2.1 dX11_reason_144 rfl (lv_at hl 4 rfl) ?_
                refine mp_reasonStep S hK hB wf_X11_474 dX11_reason_145 (fun H locs hB => ?_)
                refine lv_aload_n S.1 S.2.1 dX11_reason_148 rfl (lv_at hl 2 rfl) ?_
                refine mg_place S hK hB wf_X11_44 dX11_reason_149 ?_
                refine lv_iload_n S.1 S.2.1 dX11_reason_152 rfl (lv_at hl 3 rfl) ?_
                obtain ⟨b_22, h⟩ := gd h
                refine ml_place (v := (σ.2.1 15 p0.toNatClampNeg)) S hK hB b_22 rfl dX11_reason_153 ?_
                cases h
                exact gRetI S.1 S.2.1 hr hlk hB dX11_reason_154
              · replace h := (if_neg c_21).symm.trans h
                refine lv_aload_n S.1 S.2.1 dX11_reason_134 rfl (lv_at hl 2 rfl) ?_
                refine lv_iload_n S.1 S.2.1 dX11_reason_135 rfl (lv_at hl 1 rfl) ?_
                refine lv_iload_n S.1 S.2.1 dX11_reason_136 rfl (lv_at hl 4 rfl) ?_
                refine lv_iconst (v := (1 : Int32)) S.1 S.2.1 dX11_reason_137 (by decide) ?_
                refine lv_isub S.1 S.2.1 dX11_reason_138 ?_
                obtain ⟨r_23, σ_23, e_23, h⟩ := b2s h
                refine mCallI S hK mKSc hKS hA (hrc e_23) (cwX11_471 S.2.2.2.2 (rm := (rmSC3 d)) rfl rfl ⟨by dsimp only [rmSC3]; omega, by dsimp only [rmSC3]; omega⟩) hB rfl hl.1 rfl (lv_room (Nat.le_of_ble_eq_true rfl)) dX11_reason_139 ⟨Nat.zero_le _, Nat.zero_le _⟩ (fun H locs hB => ?_)
                cases h
                exact gRetI S.1 S.2.1 hr hlk hB dX11_reason_142
def FSC3 (L : Nat) : Nat → RC
  | 0 => fun _ _ _ _ _ => none
  | d+1 => fun k a b w σ => if k = 0 then FX11_reason (FSC3 L d) L a b σ else none
theorem FSC3_0 {L d : Nat} {a : Int32} {b : Int32} {σ : MS} : FSC3 L (d + 1) 0 a b 0 σ = FX11_reason (FSC3 L d) L a b σ := rfl
theorem SC3_all {l : Launch} {D : va_G} {cI cJ : ClassId} {ad adK adV tK : Nat → Nat} (L : Nat) : ∀ d : Nat, SC3 l D cI cJ ad adK adV tK d (FSC3 L d) := by
  intro d
  induction d with
  | zero => exact (fun h => by cases h)
  | succ d ih => exact fun h => kX11_reason ih (FSC3_0.symm.trans h)
def dSC3 : Nat := 1300
abbrev rtSC3 : Room := { frames := 1320, cells := 0, slots := 0, locals := 52400 }
theorem tSC3_reason {l : Launch} {D : va_G} {cI cJ : ClassId} {ad adK adV tK : Nat → Nat} {L : Nat} {a : Int32} {b : Int32} {σ σ' : MS} {r : Int32} (h : FSC3 L dSC3 0 a b 0 σ = some (r, σ')) : gMet l yX11_reason qX11_reason rtSC3 0 0 D vwCl [(cI, .int), (cJ, .long)] (mKS adK adV tK) [.ref (ad 0), .int a, .int b] (MW cI cJ ad σ) (MW cI cJ ad σ') (some (.int r)) := by
  have hrc : SC3 l D cI cJ ad adK adV tK dSC3 (FSC3 L dSC3) := SC3_all L dSC3
  exact hrc h
