def FX11_boundsForm (L : Nat)  (σ : MS) : Option (Int32 × MS) :=
  b2 (FX11_sees L 15 σ) fun r_1 σ_1 =>
  if r_1 = 0 then
    some ((1 : Int32), σ_1)
  else
    b2 (FX11_goes σ_1) fun r_3 σ_3 =>
    if r_3 = 0 then
      some ((0 : Int32), σ_3)
    else
      b2 (FX11_takesNumber σ_3) fun r_5 σ_5 =>
      if r_5 = 0 then
        some ((0 : Int32), σ_5)
      else
        b2 (FX11_takes L 16 σ_5) fun r_7 σ_7 =>
        if r_7 = 0 then
          some ((0 : Int32), σ_7)
        else
          b2 (FX11_takesNumber σ_7) fun r_9 σ_9 =>
          if r_9 = 0 then
            some ((0 : Int32), σ_9)
          else
            b2 (FX11_takes L 17 σ_9) fun r_11 σ_11 =>
            if r_11 = 0 then
              some ((0 : Int32), σ_11)
            else
              some ((1 : Int32), σ_11)
abbrev rmX11_boundsForm : Room := { frames := 7, cells := 0, slots := 0, locals := 151 }
set_option maxRecDepth 100000 in
set_option maxHeartbeats 4000000 in
theorem kX11_boundsForm {l : Launch} {D : va_G} {cI cJ : ClassId} {ad : Nat → Nat} {adK adV tK : Nat → Nat} {L : Nat}  {σ σ' : MS} {r : Int32} (h : FX11_boundsForm L  σ = some (r, σ')) : gMet l yX11_boundsForm qX11_boundsForm rmX11_boundsForm 0 0 D vwCl [(cI, .int), (cJ, .long)] (mKS adK adV tK) [.ref (ad 0)] (MW cI cJ ad σ) (MW cI cJ ad σ') (some (.int r)) := by
  refine gMet.of (cc := cX11_boundsForm) (maxL := 1) (ret := (some .boolean)) (by decide) rfl (Nat.le_of_ble_eq_true rfl) ?_
  intro p e s m args below meth c S hr hlk hnm hK hKS hA hB ls hl
  have hl : lv_has ls 1 [(0, .ref (ad 0))] := hl
  replace S : CallFix p m c cX11_boundsForm 1 s args (_ :: wsL_law) RX11 := S
  rw [FX11_boundsForm] at h
  refine lv_aload_n S.1 S.2.1 dX11_boundsForm_0 rfl (lv_at hl 0 rfl) ?_
  refine va_ldcS S.1 S.2.1 S.2.2.2.1 (hKS.2.1 (RX11, 224, "[", 15) (List.mem_of_getElem? (i := 15) rfl)) dX11_boundsForm_1 ?_
  obtain ⟨r_1, σ_1, e_1, h⟩ := b2s h
  refine mCallI S hK mKSc hKS hA (kX11_sees e_1) (cwX11_155 S.2.2.2.2 (rm := rmX11_sees) rfl rfl ⟨Nat.le_of_ble_eq_true rfl, Nat.le_of_ble_eq_true rfl⟩) hB rfl hl.1 rfl (lv_room (Nat.le_of_ble_eq_true rfl)) dX11_boundsForm_3 ⟨Nat.zero_le _, Nat.zero_le _⟩ (fun H locs hB => ?_)
  refine lv_if_eq (tgt := 48) S.1 S.2.1 dX11_boundsForm_6 (by decide) (fun c_2 => ?_) (fun c_2 => ?_)
  · replace h := (if_pos c_2).symm.trans h
    refine lv_iconst (v := (1 : Int32)) S.1 S.2.1 dX11_boundsForm_48 (by decide) ?_
    refine lv_goto (tgt := 53) S.1 S.2.1 dX11_boundsForm_49 (by decide) ?_
    cases h
    exact gRetZ S.1 S.2.1 hr hlk hB rfl dX11_boundsForm_53
  · replace h := (if_neg c_2).symm.trans h
    refine lv_aload_n S.1 S.2.1 dX11_boundsForm_9 rfl (lv_at hl 0 rfl) ?_
    obtain ⟨r_3, σ_3, e_3, h⟩ := b2s h
    refine mCallI S hK mKSc hKS hA (kX11_goes mKSc e_3) (cwX11_159 S.2.2.2.2 (rm := rmX11_goes) rfl rfl ⟨Nat.le_of_ble_eq_true rfl, Nat.le_of_ble_eq_true rfl⟩) hB rfl hl.1 rfl (lv_room (Nat.le_of_ble_eq_true rfl)) dX11_boundsForm_10 ⟨Nat.zero_le _, Nat.zero_le _⟩ (fun H locs hB => ?_)
    refine lv_if_eq (tgt := 52) S.1 S.2.1 dX11_boundsForm_13 (by decide) (fun c_4 => ?_) (fun c_4 => ?_)
    · replace h := (if_pos c_4).symm.trans h
      refine lv_iconst (v := (0 : Int32)) S.1 S.2.1 dX11_boundsForm_52 (by decide) ?_
      cases h
      exact gRetZ S.1 S.2.1 hr hlk hB rfl dX11_boundsForm_53
    · replace h := (if_neg c_4).symm.trans h
      refine lv_aload_n S.1 S.2.1 dX11_boundsForm_16 rfl (lv_at hl 0 rfl) ?_
      obtain ⟨r_5, σ_5, e_5, h⟩ := b2s h
      refine mCallI S hK mKSc hKS hA (kX11_takesNumber mKSc e_5) (cwX11_181 S.2.2.2.2 (rm := rmX11_takesNumber) rfl rfl ⟨Nat.le_of_ble_eq_true rfl, Nat.le_of_ble_eq_true rfl⟩) hB rfl hl.1 rfl (lv_room (Nat.le_of_ble_eq_true rfl)) dX11_boundsForm_17 ⟨Nat.zero_le _, Nat.zero_le _⟩ (fun H locs hB => ?_)
      refine lv_if_eq (tgt := 52) S.1 S.2.1 dX11_boundsForm_20 (by decide) (fun c_6 => ?_) (fun c_6 => ?_)
      · replace h := (if_pos c_6).symm.trans h
        refine lv_iconst (v := (0 : Int32)) S.1 S.2.1 dX11_boundsForm_52 (by decide) ?_
        cases h
        exact gRetZ S.1 S.2.1 hr hlk hB rfl dX11_boundsForm_53
      · replace h := (if_neg c_6).symm.trans h
        refine lv_aload_n S.1 S.2.1 dX11_boundsForm_23 rfl (lv_at hl 0 rfl) ?_
        refine va_ldcS S.1 S.2.1 S.2.2.2.1 (hKS.2.1 (RX11, 226, "..", 16) (List.mem_of_getElem? (i := 16) rfl)) dX11_boundsForm_24 ?_
        obtain ⟨r_7, σ_7, e_7, h⟩ := b2s h
        refine mCallI S hK mKSc hKS hA (kX11_takes e_7) (cwX11_171 S.2.2.2.2 (rm := rmX11_takes) rfl rfl ⟨Nat.le_of_ble_eq_true rfl, Nat.le_of_ble_eq_true rfl⟩) hB rfl hl.1 rfl (lv_room (Nat.le_of_ble_eq_true rfl)) dX11_boundsForm_26 ⟨Nat.zero_le _, Nat.zero_le _⟩ (fun H locs hB => ?_)
        refine lv_if_eq (tgt := 52) S.1 S.2.1 dX11_boundsForm_29 (by decide) (fun c_8 => ?_) (fun c_8 => ?_)
        · replace h := (if_pos c_8).symm.trans h
          refine lv_iconst (v := (0 : Int32)) S.1 S.2.1 dX11_boundsForm_52 (by decide) ?_
          cases h
          exact gRetZ S.1 S.2.1 hr hlk hB rfl dX11_boundsForm_53
        · replace h := (if_neg c_8).symm.trans h
          refine lv_aload_n S.1 S.2.1 dX11_boundsForm_32 rfl (lv_at hl 0 rfl) ?_
          obtain ⟨r_9, σ_9, e_9, h⟩ := b2s h
          refine mCallI S hK mKSc hKS hA (kX11_takesNumber mKSc e_9) (cwX11_181 S.2.2.2.2 (rm := rmX11_takesNumber) rfl rfl ⟨Nat.le_of_ble_eq_true rfl, Nat.le_of_ble_eq_true rfl⟩) hB rfl hl.1 rfl (lv_room (Nat.le_of_ble_eq_true rfl)) dX11_boundsForm_33 ⟨Nat.zero_le _, Nat.zero_le _⟩ (fun H locs hB => ?_)
          refine lv_if_eq (tgt := 52) S.1 S.2.1 dX11_boundsForm_36 (by decide) (fun c_10 => ?_) (fun c_10 => ?_)
          · replace h := (if_pos c_10).symm.trans h
            refine lv_iconst (v := (0 : Int32)) S.1 S.2.1 dX11_boundsForm_52 (by decide) ?_
            cases h
            exact gRetZ S.1 S.2.1 hr hlk hB rfl dX11_boundsForm_53
          · replace h := (if_neg c_10).symm.trans h
            refine lv_aload_n S.1 S.2.1 dX11_boundsForm_39 rfl (lv_at hl 0 rfl) ?_
            refine va_ldcS S.1 S.2.1 S.2.2.2.1 (hKS.2.1 (RX11, 228, "]", 17) (List.mem_of_getElem? (i := 17) rfl)) dX11_boundsForm_40 ?_
            obtain ⟨r_11, σ_11, e_11, h⟩ := b2s h
            refine mCallI S hK mKSc hKS hA (kX11_takes e_11) (cwX11_171 S.2.2.2.2 (rm := rmX11_takes) rfl rfl ⟨Nat.le_of_ble_eq_true rfl, Nat.le_of_ble_eq_true rfl⟩) hB rfl hl.1 rfl (lv_room (Nat.le_of_ble_eq_true rfl)) dX11_boundsForm_42 ⟨Nat.zero_le _, Nat.zero_le _⟩ (fun H locs hB => ?_)
            refine lv_if_eq (tgt := 52) S.1 S.2.1 dX11_boundsForm_45 (by decide) (fun c_12 => ?_) (fun c_12 => ?_)
            · replace h := (if_pos c_12).symm.trans h
              refine lv_iconst (v := (0 : Int32)) S.1 S.2.1 dX11_boundsForm_52 (by decide) ?_
              cases h
              exact gRetZ S.1 S.2.1 hr hlk hB rfl dX11_boundsForm_53
            · replace h := (if_neg c_12).symm.trans h
              refine lv_iconst (v := (1 : Int32)) S.1 S.2.1 dX11_boundsForm_48 (by decide) ?_
              refine lv_goto (tgt := 53) S.1 S.2.1 dX11_boundsForm_49 (by decide) ?_
              cases h
              exact gRetZ S.1 S.2.1 hr hlk hB rfl dX11_boundsForm_53
abbrev rmSC1 (d : Nat) : Room := { frames := d + 20, cells := 0, slots := 0, locals := 40 * d + 400 }
def SC1 (l : Launch) (D : va_G) (cI cJ : ClassId) (ad adK adV tK : Nat → Nat) (d : Nat) (rc : RC) : Prop :=
  (∀ {a : Int32} {σ σ' : MS} {r : Int32}, rc 0 a 0 0 σ = some (r, σ') → gMet l yX11_formulaForm qX11_formulaForm (rmSC1 d) 0 0 D vwCl [(cI, .int), (cJ, .long)] (mKS adK adV tK) [.ref (ad 0), .int a] (MW cI cJ ad σ) (MW cI cJ ad σ') (some (.int r))) ∧
  (∀ {a : Int32} {w : Nat} {σ σ' : MS} {r : Int32}, rc 1 a 0 w σ = some (r, σ') → gMet l yX11_rowForm qX11_rowForm (rmSC1 d) 0 0 D vwCl [(cI, .int), (cJ, .long)] (mKS adK adV tK) [.ref (ad 0), .int a, .ref (adK w)] (MW cI cJ ad σ) (MW cI cJ ad σ') (some (.int r))) ∧
  (∀ {a : Int32} {σ σ' : MS} {r : Int32}, rc 2 a 0 0 σ = some (r, σ') → gMet l yX11_sinceForm qX11_sinceForm (rmSC1 d) 0 0 D vwCl [(cI, .int), (cJ, .long)] (mKS adK adV tK) [.ref (ad 0), .int a] (MW cI cJ ad σ) (MW cI cJ ad σ') (some (.int r))) ∧
  (∀ {a : Int32} {σ σ' : MS} {r : Int32}, rc 3 a 0 0 σ = some (r, σ') → gMet l yX11_oneForm qX11_oneForm (rmSC1 d) 0 0 D vwCl [(cI, .int), (cJ, .long)] (mKS adK adV tK) [.ref (ad 0), .int a] (MW cI cJ ad σ) (MW cI cJ ad σ') (some (.int r))) ∧
  (∀ {a : Int32} {σ σ' : MS} {r : Int32}, rc 4 a 0 0 σ = some (r, σ') → gMet l yX11_expressionForm qX11_expressionForm (rmSC1 d) 0 0 D vwCl [(cI, .int), (cJ, .long)] (mKS adK adV tK) [.ref (ad 0), .int a] (MW cI cJ ad σ) (MW cI cJ ad σ') (some (.int r))) ∧
  (∀ {a : Int32} {σ σ' : MS} {r : Int32}, rc 5 a 0 0 σ = some (r, σ') → gMet l yX11_productForm qX11_productForm (rmSC1 d) 0 0 D vwCl [(cI, .int), (cJ, .long)] (mKS adK adV tK) [.ref (ad 0), .int a] (MW cI cJ ad σ) (MW cI cJ ad σ') (some (.int r))) ∧
  (∀ {a : Int32} {σ σ' : MS} {r : Int32}, rc 6 a 0 0 σ = some (r, σ') → gMet l yX11_bracesForm qX11_bracesForm (rmSC1 d) 0 0 D vwCl [(cI, .int), (cJ, .long)] (mKS adK adV tK) [.ref (ad 0), .int a] (MW cI cJ ad σ) (MW cI cJ ad σ') (some (.int r))) ∧
  (∀ {a : Int32} {σ σ' : MS} {r : Int32}, rc 7 a 0 0 σ = some (r, σ') → gMet l yX11_factorForm qX11_factorForm (rmSC1 d) 0 0 D vwCl [(cI, .int), (cJ, .long)] (mKS adK adV tK) [.ref (ad 0), .int a] (MW cI cJ ad σ) (MW cI cJ ad σ') (some (.int r)))
def FX11_formulaForm (rc : RC) (L : Nat) (p0 : Int32) (σ : MS) : Option (Int32 × MS) :=
  b2 (rc 1 p0 0 11 σ) fun r_1 σ_1 =>
  if r_1 = 0 then
    some ((0 : Int32), σ_1)
  else
    b2 (FX11_sees L 12 σ_1) fun r_3 σ_3 =>
    if r_3 = 0 then
      some ((1 : Int32), σ_3)
    else
      b2 (FX11_goes σ_3) fun r_5 σ_5 =>
      if r_5 = 0 then
        some ((0 : Int32), σ_5)
      else
        b2 (rc 0 p0 0 0 σ_5) fun r_7 σ_7 =>
        if r_7 = 0 then
          some ((0 : Int32), σ_7)
        else
          some ((1 : Int32), σ_7)
set_option maxRecDepth 100000 in
set_option maxHeartbeats 4000000 in
theorem kX11_formulaForm {l : Launch} {D : va_G} {cI cJ : ClassId} {ad : Nat → Nat} {adK adV tK : Nat → Nat} {L : Nat} {d : Nat} {rc : RC} (hrc : SC1 l D cI cJ ad adK adV tK d rc) {p0 : Int32} {σ σ' : MS} {r : Int32} (h : FX11_formulaForm rc L p0 σ = some (r, σ')) : gMet l yX11_formulaForm qX11_formulaForm (rmSC1 (d + 1)) 0 0 D vwCl [(cI, .int), (cJ, .long)] (mKS adK adV tK) [.ref (ad 0), .int p0] (MW cI cJ ad σ) (MW cI cJ ad σ') (some (.int r)) := by
  refine gMet.of (cc := cX11_formulaForm) (maxL := 2) (ret := (some .boolean)) (by decide) rfl (Nat.le_of_ble_eq_true rfl) ?_
  intro p e s m args below meth c S hr hlk hnm hK hKS hA hB ls hl
  have hl : lv_has ls 2 [(0, .ref (ad 0)), (1, .int p0)] := hl
  replace S : CallFix p m c cX11_formulaForm 2 s args (_ :: wsL_law) RX11 := S
  rw [FX11_formulaForm] at h
  refine lv_aload_n S.1 S.2.1 dX11_formulaForm_0 rfl (lv_at hl 0 rfl) ?_
  refine lv_iload_n S.1 S.2.1 dX11_formulaForm_1 rfl (lv_at hl 1 rfl) ?_
  refine va_ldcS S.1 S.2.1 S.2.2.2.1 (hKS.2.1 (RX11, 204, "or", 11) (List.mem_of_getElem? (i := 11) rfl)) dX11_formulaForm_2 ?_
  obtain ⟨r_1, σ_1, e_1, h⟩ := b2s h
  refine mCallI S hK mKSc hKS hA (hrc.2.1 e_1) (cwX11_206 S.2.2.2.2 (rm := (rmSC1 d)) rfl rfl ⟨by dsimp only [rmSC1]; omega, by dsimp only [rmSC1]; omega⟩) hB rfl hl.1 rfl (lv_room (Nat.le_of_ble_eq_true rfl)) dX11_formulaForm_4 ⟨Nat.zero_le _, Nat.zero_le _⟩ (fun H locs hB => ?_)
  refine lv_if_eq (tgt := 38) S.1 S.2.1 dX11_formulaForm_7 (by decide) (fun c_2 => ?_) (fun c_2 => ?_)
  · replace h := (if_pos c_2).symm.trans h
    refine lv_iconst (v := (0 : Int32)) S.1 S.2.1 dX11_formulaForm_38 (by decide) ?_
    cases h
    exact gRetZ S.1 S.2.1 hr hlk hB rfl dX11_formulaForm_39
  · replace h := (if_neg c_2).symm.trans h
    refine lv_aload_n S.1 S.2.1 dX11_formulaForm_10 rfl (lv_at hl 0 rfl) ?_
    refine va_ldcS S.1 S.2.1 S.2.2.2.1 (hKS.2.1 (RX11, 209, "implies", 12) (List.mem_of_getElem? (i := 12) rfl)) dX11_formulaForm_11 ?_
    obtain ⟨r_3, σ_3, e_3, h⟩ := b2s h
    refine mCallI S hK mKSc hKS hA (kX11_sees e_3) (cwX11_155 S.2.2.2.2 (rm := rmX11_sees) rfl rfl ⟨by dsimp only [rmSC1, rmX11_sees]; omega, by dsimp only [rmSC1, rmX11_sees]; omega⟩) hB rfl hl.1 rfl (lv_room (Nat.le_of_ble_eq_true rfl)) dX11_formulaForm_13 ⟨Nat.zero_le _, Nat.zero_le _⟩ (fun H locs hB => ?_)
    refine lv_if_eq (tgt := 34) S.1 S.2.1 dX11_formulaForm_16 (by decide) (fun c_4 => ?_) (fun c_4 => ?_)
    · replace h := (if_pos c_4).symm.trans h
      refine lv_iconst (v := (1 : Int32)) S.1 S.2.1 dX11_formulaForm_34 (by decide) ?_
      refine lv_goto (tgt := 39) S.1 S.2.1 dX11_formulaForm_35 (by decide) ?_
      cases h
      exact gRetZ S.1 S.2.1 hr hlk hB rfl dX11_formulaForm_39
    · replace h := (if_neg c_4).symm.trans h
      refine lv_aload_n S.1 S.2.1 dX11_formulaForm_19 rfl (lv_at hl 0 rfl) ?_
      obtain ⟨r_5, σ_5, e_5, h⟩ := b2s h
      refine mCallI S hK mKSc hKS hA (kX11_goes mKSc e_5) (cwX11_159 S.2.2.2.2 (rm := rmX11_goes) rfl rfl ⟨by dsimp only [rmSC1, rmX11_goes]; omega, by dsimp only [rmSC1, rmX11_goes]; omega⟩) hB rfl hl.1 rfl (lv_room (Nat.le_of_ble_eq_true rfl)) dX11_formulaForm_20 ⟨Nat.zero_le _, Nat.zero_le _⟩ (fun H locs hB => ?_)
      refine lv_if_eq (tgt := 38) S.1 S.2.1 dX11_formulaForm_23 (by decide) (fun c_6 => ?_) (fun c_6 => ?_)
      · replace h := (if_pos c_6).symm.trans h
        refine lv_iconst (v := (0 : Int32)) S.1 S.2.1 dX11_formulaForm_38 (by decide) ?_
        cases h
        exact gRetZ S.1 S.2.1 hr hlk hB rfl dX11_formulaForm_39
      · replace h := (if_neg c_6).symm.trans h
        refine lv_aload_n S.1 S.2.1 dX11_formulaForm_26 rfl (lv_at hl 0 rfl) ?_
        refine lv_iload_n S.1 S.2.1 dX11_formulaForm_27 rfl (lv_at hl 1 rfl) ?_
        obtain ⟨r_7, σ_7, e_7, h⟩ := b2s h
        refine mCallI S hK mKSc hKS hA (hrc.1 e_7) (cwX11_190 S.2.2.2.2 (rm := (rmSC1 d)) rfl rfl ⟨by dsimp only [rmSC1]; omega, by dsimp only [rmSC1]; omega⟩) hB rfl hl.1 rfl (lv_room (Nat.le_of_ble_eq_true rfl)) dX11_formulaForm_28 ⟨Nat.zero_le _, Nat.zero_le _⟩ (fun H locs hB => ?_)
        refine lv_if_eq (tgt := 38) S.1 S.2.1 dX11_formulaForm_31 (by decide) (fun c_8 => ?_) (fun c_8 => ?_)
        · replace h := (if_pos c_8).symm.trans h
          refine lv_iconst (v := (0 : Int32)) S.1 S.2.1 dX11_formulaForm_38 (by decide) ?_
          cases h
          exact gRetZ S.1 S.2.1 hr hlk hB rfl dX11_formulaForm_39
        · replace h := (if_neg c_8).symm.trans h
          refine lv_iconst (v := (1 : Int32)) S.1 S.2.1 dX11_formulaForm_34 (by decide) ?_
          refine lv_goto (tgt := 39) S.1 S.2.1 dX11_formulaForm_35 (by decide) ?_
          cases h
          exact gRetZ S.1 S.2.1 hr hlk hB rfl dX11_formulaForm_39
def FX11_rowForm_41 (rc : RC) (L : Nat) (w : Nat)  : Nat → Int32 → Int32 → MS → Option (Int32 × MS)
  | 0, _, _, _ => none
  | n+1, x1, x3, σ1 =>
    b2 (FX11_sees L w σ1) fun r_6 σ_6 =>
    if r_6 = 0 then
      some ((1 : Int32), σ_6)
    else
      b2 (FX11_goes σ_6) fun r_8 σ_8 =>
      if r_8 = 0 then
        some ((0 : Int32), σ_8)
      else
        if x3 = 0 then
          b2 (rc 2 x1 0 0 σ_8) fun r_11 σ_11 =>
          if r_11 = 0 then
            some ((0 : Int32), σ_11)
          else
            (FX11_rowForm_41 rc L w n) x1 x3 σ_11
        else
          b2 (rc 1 x1 0 13 σ_8) fun r_13 σ_13 =>
          if r_13 = 0 then
            some ((0 : Int32), σ_13)
          else
            (FX11_rowForm_41 rc L w n) x1 x3 σ_13
def FX11_rowForm_13 (rc : RC) (L : Nat) (w : Nat)  (x1 : Int32) (y0 : Int32) (σ1 : MS) : Option (Int32 × MS) :=
    if y0 = 0 then
      b2 (rc 2 x1 0 0 σ1) fun r_4 σ_4 =>
      if r_4 = 0 then
        some ((0 : Int32), σ_4)
      else
        FX11_rowForm_41 rc L w L x1 y0 σ_4
    else
      b2 (rc 1 x1 0 13 σ1) fun r_15 σ_15 =>
      if r_15 = 0 then
        some ((0 : Int32), σ_15)
      else
        FX11_rowForm_41 rc L w L x1 y0 σ_15
def FX11_rowForm (rc : RC) (L : Nat) (p0 : Int32) (w : Nat) (σ : MS) : Option (Int32 × MS) :=
  if ¬ (w < 53) then none else
  (FJ0_length_8abf5 w).bind fun r_1 =>
  if r_1 = (2 : Int32) then
    FX11_rowForm_13 rc L w p0 (1 : Int32) σ
  else
    FX11_rowForm_13 rc L w p0 (0 : Int32) σ
set_option maxRecDepth 100000 in
set_option maxHeartbeats 4000000 in
theorem kX11_rowForm {l : Launch} {D : va_G} {cI cJ : ClassId} {ad : Nat → Nat} {adK adV tK : Nat → Nat} {L : Nat} {d : Nat} {rc : RC} (hrc : SC1 l D cI cJ ad adK adV tK d rc) {p0 : Int32} {w : Nat} {σ σ' : MS} {r : Int32} (h : FX11_rowForm rc L p0 w σ = some (r, σ')) : gMet l yX11_rowForm qX11_rowForm (rmSC1 (d + 1)) 0 0 D vwCl [(cI, .int), (cJ, .long)] (mKS adK adV tK) [.ref (ad 0), .int p0, .ref (adK w)] (MW cI cJ ad σ) (MW cI cJ ad σ') (some (.int r)) := by
  refine gMet.of (cc := cX11_rowForm) (maxL := 4) (ret := (some .boolean)) (by decide) rfl (Nat.le_of_ble_eq_true rfl) ?_
  intro p e s m args below meth c S hr hlk hnm hK hKS hA hB ls hl
  have hl : lv_has ls 4 [(0, .ref (ad 0)), (1, .int p0), (2, .ref (adK w))] := hl
  replace S : CallFix p m c cX11_rowForm 4 s args (_ :: wsL_law) RX11 := S
  rw [FX11_rowForm] at h
  obtain ⟨hw, h⟩ := gd h
  replace hw := Decidable.not_not.mp hw
  have P41 : ∀  (n : Nat), ∀ (x1 : Int32) (x3 : Int32) (σ1 : MS) (H : Heap) (locs : List Loc) (ls : Array Slot), FX11_rowForm_41 rc L w n x1 x3 σ1 = some (r, σ') → gB D vwCl (va_A (MW cI cJ ad σ) s.heap.size) s.heap (MW cI cJ ad σ1) [] H locs → lv_has ls 4 [(0, .ref (ad 0)), (1, .int x1), (2, .ref (adK w)), (3, .int x3)] → W p l e (rmSC1 (d + 1)) s m args below meth c H locs 0 0 (MQ below (gQ D vwCl (MW cI cJ ad σ) (MW cI cJ ad σ') (some (.int r)) s.heap.size) args s 0 0 (va_A (MW cI cJ ad σ) s.heap.size)) (F0 m 41 ls []) := by
    intro n
    induction n with
    | zero => intro x1 x3 σ1 H locs ls h; simp only [FX11_rowForm_41] at h; cases h
    | succ n ih =>
      intro x1 x3 σ1 H locs ls h hB hl
      rw [FX11_rowForm_41] at h
      refine lv_aload_n S.1 S.2.1 dX11_rowForm_41 rfl (lv_at hl 0 rfl) ?_
      refine lv_aload_n S.1 S.2.1 dX11_rowForm_42 rfl (lv_at hl 2 rfl) ?_
      obtain ⟨r_6, σ_6, e_6, h⟩ := b2s h
      refine mCallI S hK mKSc hKS hA (kX11_sees e_6) (cwX11_155 S.2.2.2.2 (rm := rmX11_sees) rfl rfl ⟨by dsimp only [rmSC1, rmX11_sees]; omega, by dsimp only [rmSC1, rmX11_sees]; omega⟩) hB rfl hl.1 rfl (lv_room (Nat.le_of_ble_eq_true rfl)) dX11_rowForm_43 ⟨Nat.zero_le _, Nat.zero_le _⟩ (fun H locs hB => ?_)
      refine lv_if_eq (tgt := 83) S.1 S.2.1 dX11_rowForm_46 (by decide) (fun c_7 => ?_) (fun c_7 => ?_)
      · replace h := (if_pos c_7).symm.trans h
        refine lv_iconst (v := (1 : Int32)) S.1 S.2.1 dX11_rowForm_83 (by decide) ?_
        cases h
        exact gRetZ S.1 S.2.1 hr hlk hB rfl dX11_rowForm_84
      · replace h := (if_neg c_7).symm.trans h
        refine lv_aload_n S.1 S.2.1 dX11_rowForm_49 rfl (lv_at hl 0 rfl) ?_
        obtain ⟨r_8, σ_8, e_8, h⟩ := b2s h
        refine mCallI S hK mKSc hKS hA (kX11_goes mKSc e_8) (cwX11_159 S.2.2.2.2 (rm := rmX11_goes) rfl rfl ⟨by dsimp only [rmSC1, rmX11_goes]; omega, by dsimp only [rmSC1, rmX11_goes]; omega⟩) hB rfl hl.1 rfl (lv_room (Nat.le_of_ble_eq_true rfl)) dX11_rowForm_50 ⟨Nat.zero_le _, Nat.zero_le _⟩ (fun H locs hB => ?_)
        refine lv_if_eq (tgt := 81) S.1 S.2.1 dX11_rowForm_53 (by decide) (fun c_9 => ?_) (fun c_9 => ?_)
        · replace h := (if_pos c_9).symm.trans h
          refine lv_iconst (v := (0 : Int32)) S.1 S.2.1 dX11_rowForm_81 (by decide) ?_
          cases h
          exact gRetZ S.1 S.2.1 hr hlk hB rfl dX11_rowForm_82
        · replace h := (if_neg c_9).symm.trans h
          refine lv_iload_n S.1 S.2.1 dX11_rowForm_56 rfl (lv_at hl 3 rfl) ?_
          refine lv_if_eq (tgt := 73) S.1 S.2.1 dX11_rowForm_57 (by decide) (fun c_10 => ?_) (fun c_10 => ?_)
          · replace h := (if_pos c_10).symm.trans h
            refine lv_aload_n S.1 S.2.1 dX11_rowForm_73 rfl (lv_at hl 0 rfl) ?_
            refine lv_iload_n S.1 S.2.1 dX11_rowForm_74 rfl (lv_at hl 1 rfl) ?_
            obtain ⟨r_11, σ_11, e_11, h⟩ := b2s h
            refine mCallI S hK mKSc hKS hA (hrc.2.2.1 e_11) (cwX11_213 S.2.2.2.2 (rm := (rmSC1 d)) rfl rfl ⟨by dsimp only [rmSC1]; omega, by dsimp only [rmSC1]; omega⟩) hB rfl hl.1 rfl (lv_room (Nat.le_of_ble_eq_true rfl)) dX11_rowForm_75 ⟨Nat.zero_le _, Nat.zero_le _⟩ (fun H locs hB => ?_)
            refine lv_if_ne (tgt := 41) S.1 S.2.1 dX11_rowForm_78 (by decide) (fun c_12 => ?_) (fun c_12 => ?_)
            · replace h := (if_neg c_12).symm.trans h
              exact ih _ _ _ _ _ _ h hB hl
            · replace h := (if_pos c_12).symm.trans h
              refine lv_iconst (v := (0 : Int32)) S.1 S.2.1 dX11_rowForm_81 (by decide) ?_
              cases h
              exact gRetZ S.1 S.2.1 hr hlk hB rfl dX11_rowForm_82
          · replace h := (if_neg c_10).symm.trans h
            refine lv_aload_n S.1 S.2.1 dX11_rowForm_60 rfl (lv_at hl 0 rfl) ?_
            refine lv_iload_n S.1 S.2.1 dX11_rowForm_61 rfl (lv_at hl 1 rfl) ?_
            refine va_ldcS S.1 S.2.1 S.2.2.2.1 (hKS.2.1 (RX11, 211, "and", 13) (List.mem_of_getElem? (i := 13) rfl)) dX11_rowForm_62 ?_
            obtain ⟨r_13, σ_13, e_13, h⟩ := b2s h
            refine mCallI S hK mKSc hKS hA (hrc.2.1 e_13) (cwX11_206 S.2.2.2.2 (rm := (rmSC1 d)) rfl rfl ⟨by dsimp only [rmSC1]; omega, by dsimp only [rmSC1]; omega⟩) hB rfl hl.1 rfl (lv_room (Nat.le_of_ble_eq_true rfl)) dX11_rowForm_64 ⟨Nat.zero_le _, Nat.zero_le _⟩ (fun H locs hB => ?_)
            refine lv_if_eq (tgt := 81) S.1 S.2.1 dX11_rowForm_67 (by decide) (fun c_14 => ?_) (fun c_14 => ?_)
            · replace h := (if_pos c_14).symm.trans h
              refine lv_iconst (v := (0 : Int32)) S.1 S.2.1 dX11_rowForm_81 (by decide) ?_
              cases h
              exact gRetZ S.1 S.2.1 hr hlk hB rfl dX11_rowForm_82
            · replace h := (if_neg c_14).symm.trans h
              refine lv_goto (tgt := 41) S.1 S.2.1 dX11_rowForm_70 (by decide) ?_
              exact ih _ _ _ _ _ _ h hB hl
  have P13 : ∀ (x1 : Int32) (y0 : Int32) (σ1 : MS) (H : Heap) (locs : List Loc) (ls : Array Slot), FX11_rowForm_13 rc L w x1 y0 σ1 = some (r, σ') → gB D vwCl (va_A (MW cI cJ ad σ) s.heap.size) s.heap (MW cI cJ ad σ1) [] H locs → lv_has ls 4 [(0, .ref (ad 0)), (1, .int x1), (2, .ref (adK w))] → W p l e (rmSC1 (d + 1)) s m args below meth c H locs 0 0 (MQ below (gQ D vwCl (MW cI cJ ad σ) (MW cI cJ ad σ') (some (.int r)) s.heap.size) args s 0 0 (va_A (MW cI cJ ad σ) s.heap.size)) (F0 m 13 ls [.int y0]) := by
    intro  x1 y0 σ1 H locs ls h hB hl
    rw [FX11_rowForm_13] at h
    refine lv_istore_n (lv' := [(3, .int y0), (0, .ref (ad 0)), (1, .int x1), (2, .ref (adK w))]) S.1 S.2.1 dX11_rowForm_13 rfl hl (by decide) rfl (fun ls hl => ?_)
    refine lv_iload_n S.1 S.2.1 dX11_rowForm_14 rfl (lv_at hl 0 rfl) ?_
    refine lv_if_eq (tgt := 31) S.1 S.2.1 dX11_rowForm_15 (by decide) (fun c_3 => ?_) (fun c_3 => ?_)
    · replace h := (if_pos c_3).symm.trans h
      refine lv_aload_n S.1 S.2.1 dX11_rowForm_31 rfl (lv_at hl 1 rfl) ?_
      refine lv_iload_n S.1 S.2.1 dX11_rowForm_32 rfl (lv_at hl 2 rfl) ?_
      obtain ⟨r_4, σ_4, e_4, h⟩ := b2s h
      refine mCallI S hK mKSc hKS hA (hrc.2.2.1 e_4) (cwX11_213 S.2.2.2.2 (rm := (rmSC1 d)) rfl rfl ⟨by dsimp only [rmSC1]; omega, by dsimp only [rmSC1]; omega⟩) hB rfl hl.1 rfl (lv_room (Nat.le_of_ble_eq_true rfl)) dX11_rowForm_33 ⟨Nat.zero_le _, Nat.zero_le _⟩ (fun H locs hB => ?_)
      refine lv_if_ne (tgt := 41) S.1 S.2.1 dX11_rowForm_36 (by decide) (fun c_5 => ?_) (fun c_5 => ?_)
      · replace h := (if_neg c_5).symm.trans h
        exact P41  L _ _ _ _ _ _ h hB (lv_sub hl [1, 2, 3, 0] rfl)
      · replace h := (if_pos c_5).symm.trans h
        refine lv_iconst (v := (0 : Int32)) S.1 S.2.1 dX11_rowForm_39 (by decide) ?_
        cases h
        exact gRetZ S.1 S.2.1 hr hlk hB rfl dX11_rowForm_40
    · replace h := (if_neg c_3).symm.trans h
      refine lv_aload_n S.1 S.2.1 dX11_rowForm_18 rfl (lv_at hl 1 rfl) ?_
      refine lv_iload_n S.1 S.2.1 dX11_rowForm_19 rfl (lv_at hl 2 rfl) ?_
      refine va_ldcS S.1 S.2.1 S.2.2.2.1 (hKS.2.1 (RX11, 211, "and", 13) (List.mem_of_getElem? (i := 13) rfl)) dX11_rowForm_20 ?_
      obtain ⟨r_15, σ_15, e_15, h⟩ := b2s h
      refine mCallI S hK mKSc hKS hA (hrc.2.1 e_15) (cwX11_206 S.2.2.2.2 (rm := (rmSC1 d)) rfl rfl ⟨by dsimp only [rmSC1]; omega, by dsimp only [rmSC1]; omega⟩) hB rfl hl.1 rfl (lv_room (Nat.le_of_ble_eq_true rfl)) dX11_rowForm_22 ⟨Nat.zero_le _, Nat.zero_le _⟩ (fun H locs hB => ?_)
      refine lv_if_eq (tgt := 39) S.1 S.2.1 dX11_rowForm_25 (by decide) (fun c_16 => ?_) (fun c_16 => ?_)
      · replace h := (if_pos c_16).symm.trans h
        refine lv_iconst (v := (0 : Int32)) S.1 S.2.1 dX11_rowForm_39 (by decide) ?_
        cases h
        exact gRetZ S.1 S.2.1 hr hlk hB rfl dX11_rowForm_40
      · replace h := (if_neg c_16).symm.trans h
        refine lv_goto (tgt := 41) S.1 S.2.1 dX11_rowForm_28 (by decide) ?_
        exact P41  L _ _ _ _ _ _ h hB (lv_sub hl [1, 2, 3, 0] rfl)
  refine lv_aload_n S.1 S.2.1 dX11_rowForm_0 rfl (lv_at hl 2 rfl) ?_
  obtain ⟨r_1, e_1, h⟩ := bnd h
  refine mCallTI S hK mKSc hKS hA (kJ0_length_8abf5 hw e_1) (cwX11_131 S.2.2.2.2 (rm := rmJ0_length_8abf5) rfl rfl ⟨by dsimp only [rmJ0_length_8abf5, rmSC1]; omega, by dsimp only [rmJ0_length_8abf5, rmSC1]; omega⟩) (vk_recv hKS.1 hw hB.2.2) hB rfl hl.1 rfl (lv_room (Nat.le_of_ble_eq_true rfl)) dX11_rowForm_1 ⟨Nat.zero_le _, Nat.zero_le _⟩ (fun H locs hB => ?_)
  refine lv_iconst (v := (2 : Int32)) S.1 S.2.1 dX11_rowForm_4 (by decide) ?_
  refine lv_icmp_ne (tgt := 12) S.1 S.2.1 dX11_rowForm_5 (by decide) (fun c_2 => ?_) (fun c_2 => ?_)
  · replace h := (if_neg c_2).symm.trans h
    refine lv_iconst (v := (0 : Int32)) S.1 S.2.1 dX11_rowForm_12 (by decide) ?_
    exact P13  _ _ _ _ _ _ h hB hl
  · replace h := (if_pos c_2).symm.trans h
    refine lv_iconst (v := (1 : Int32)) S.1 S.2.1 dX11_rowForm_8 (by decide) ?_
    refine lv_goto (tgt := 13) S.1 S.2.1 dX11_rowForm_9 (by decide) ?_
    exact P13  _ _ _ _ _ _ h hB hl
def FX11_sinceForm (rc : RC) (L : Nat) (p0 : Int32) (σ : MS) : Option (Int32 × MS) :=
  b2 (rc 3 p0 0 0 σ) fun r_1 σ_1 =>
  if r_1 = 0 then
    some ((0 : Int32), σ_1)
  else
    b2 (FX11_sees L 14 σ_1) fun r_3 σ_3 =>
    if r_3 = 0 then
      some ((1 : Int32), σ_3)
    else
      b2 (FX11_goes σ_3) fun r_5 σ_5 =>
      if r_5 = 0 then
        some ((0 : Int32), σ_5)
      else
        b2 (FX11_boundsForm L σ_5) fun r_7 σ_7 =>
        if r_7 = 0 then
          some ((0 : Int32), σ_7)
        else
          b2 (rc 3 p0 0 0 σ_7) fun r_9 σ_9 =>
          if r_9 = 0 then
            some ((0 : Int32), σ_9)
          else
            some ((1 : Int32), σ_9)
set_option maxRecDepth 100000 in
set_option maxHeartbeats 4000000 in
theorem kX11_sinceForm {l : Launch} {D : va_G} {cI cJ : ClassId} {ad : Nat → Nat} {adK adV tK : Nat → Nat} {L : Nat} {d : Nat} {rc : RC} (hrc : SC1 l D cI cJ ad adK adV tK d rc) {p0 : Int32} {σ σ' : MS} {r : Int32} (h : FX11_sinceForm rc L p0 σ = some (r, σ')) : gMet l yX11_sinceForm qX11_sinceForm (rmSC1 (d + 1)) 0 0 D vwCl [(cI, .int), (cJ, .long)] (mKS adK adV tK) [.ref (ad 0), .int p0] (MW cI cJ ad σ) (MW cI cJ ad σ') (some (.int r)) := by
  refine gMet.of (cc := cX11_sinceForm) (maxL := 2) (ret := (some .boolean)) (by decide) rfl (Nat.le_of_ble_eq_true rfl) ?_
  intro p e s m args below meth c S hr hlk hnm hK hKS hA hB ls hl
  have hl : lv_has ls 2 [(0, .ref (ad 0)), (1, .int p0)] := hl
  replace S : CallFix p m c cX11_sinceForm 2 s args (_ :: wsL_law) RX11 := S
  rw [FX11_sinceForm] at h
  refine lv_aload_n S.1 S.2.1 dX11_sinceForm_0 rfl (lv_at hl 0 rfl) ?_
  refine lv_iload_n S.1 S.2.1 dX11_sinceForm_1 rfl (lv_at hl 1 rfl) ?_
  obtain ⟨r_1, σ_1, e_1, h⟩ := b2s h
  refine mCallI S hK mKSc hKS hA (hrc.2.2.2.1 e_1) (cwX11_216 S.2.2.2.2 (rm := (rmSC1 d)) rfl rfl ⟨by dsimp only [rmSC1]; omega, by dsimp only [rmSC1]; omega⟩) hB rfl hl.1 rfl (lv_room (Nat.le_of_ble_eq_true rfl)) dX11_sinceForm_2 ⟨Nat.zero_le _, Nat.zero_le _⟩ (fun H locs hB => ?_)
  refine lv_if_eq (tgt := 43) S.1 S.2.1 dX11_sinceForm_5 (by decide) (fun c_2 => ?_) (fun c_2 => ?_)
  · replace h := (if_pos c_2).symm.trans h
    refine lv_iconst (v := (0 : Int32)) S.1 S.2.1 dX11_sinceForm_43 (by decide) ?_
    cases h
    exact gRetZ S.1 S.2.1 hr hlk hB rfl dX11_sinceForm_44
  · replace h := (if_neg c_2).symm.trans h
    refine lv_aload_n S.1 S.2.1 dX11_sinceForm_8 rfl (lv_at hl 0 rfl) ?_
    refine va_ldcS S.1 S.2.1 S.2.2.2.1 (hKS.2.1 (RX11, 219, "since", 14) (List.mem_of_getElem? (i := 14) rfl)) dX11_sinceForm_9 ?_
    obtain ⟨r_3, σ_3, e_3, h⟩ := b2s h
    refine mCallI S hK mKSc hKS hA (kX11_sees e_3) (cwX11_155 S.2.2.2.2 (rm := rmX11_sees) rfl rfl ⟨by dsimp only [rmSC1, rmX11_sees]; omega, by dsimp only [rmSC1, rmX11_sees]; omega⟩) hB rfl hl.1 rfl (lv_room (Nat.le_of_ble_eq_true rfl)) dX11_sinceForm_11 ⟨Nat.zero_le _, Nat.zero_le _⟩ (fun H locs hB => ?_)
    refine lv_if_eq (tgt := 39) S.1 S.2.1 dX11_sinceForm_14 (by decide) (fun c_4 => ?_) (fun c_4 => ?_)
    · replace h := (if_pos c_4).symm.trans h
      refine lv_iconst (v := (1 : Int32)) S.1 S.2.1 dX11_sinceForm_39 (by decide) ?_
      refine lv_goto (tgt := 44) S.1 S.2.1 dX11_sinceForm_40 (by decide) ?_
      cases h
      exact gRetZ S.1 S.2.1 hr hlk hB rfl dX11_sinceForm_44
    · replace h := (if_neg c_4).symm.trans h
      refine lv_aload_n S.1 S.2.1 dX11_sinceForm_17 rfl (lv_at hl 0 rfl) ?_
      obtain ⟨r_5, σ_5, e_5, h⟩ := b2s h
      refine mCallI S hK mKSc hKS hA (kX11_goes mKSc e_5) (cwX11_159 S.2.2.2.2 (rm := rmX11_goes) rfl rfl ⟨by dsimp only [rmSC1, rmX11_goes]; omega, by dsimp only [rmSC1, rmX11_goes]; omega⟩) hB rfl hl.1 rfl (lv_room (Nat.le_of_ble_eq_true rfl)) dX11_sinceForm_18 ⟨Nat.zero_le _, Nat.zero_le _⟩ (fun H locs hB => ?_)
      refine lv_if_eq (tgt := 43) S.1 S.2.1 dX11_sinceForm_21 (by decide) (fun c_6 => ?_) (fun c_6 => ?_)
      · replace h := (if_pos c_6).symm.trans h
        refine lv_iconst (v := (0 : Int32)) S.1 S.2.1 dX11_sinceForm_43 (by decide) ?_
        cases h
        exact gRetZ S.1 S.2.1 hr hlk hB rfl dX11_sinceForm_44
      · replace h := (if_neg c_6).symm.trans h
        refine lv_aload_n S.1 S.2.1 dX11_sinceForm_24 rfl (lv_at hl 0 rfl) ?_
        obtain ⟨r_7, σ_7, e_7, h⟩ := b2s h
        refine mCallI S hK mKSc hKS hA (kX11_boundsForm e_7) (cwX11_221 S.2.2.2.2 (rm := rmX11_boundsForm) rfl rfl ⟨by dsimp only [rmSC1, rmX11_boundsForm]; omega, by dsimp only [rmSC1, rmX11_boundsForm]; omega⟩) hB rfl hl.1 rfl (lv_room (Nat.le_of_ble_eq_true rfl)) dX11_sinceForm_25 ⟨Nat.zero_le _, Nat.zero_le _⟩ (fun H locs hB => ?_)
        refine lv_if_eq (tgt := 43) S.1 S.2.1 dX11_sinceForm_28 (by decide) (fun c_8 => ?_) (fun c_8 => ?_)
        · replace h := (if_pos c_8).symm.trans h
          refine lv_iconst (v := (0 : Int32)) S.1 S.2.1 dX11_sinceForm_43 (by decide) ?_
          cases h
          exact gRetZ S.1 S.2.1 hr hlk hB rfl dX11_sinceForm_44
        · replace h := (if_neg c_8).symm.trans h
          refine lv_aload_n S.1 S.2.1 dX11_sinceForm_31 rfl (lv_at hl 0 rfl) ?_
          refine lv_iload_n S.1 S.2.1 dX11_sinceForm_32 rfl (lv_at hl 1 rfl) ?_
          obtain ⟨r_9, σ_9, e_9, h⟩ := b2s h
          refine mCallI S hK mKSc hKS hA (hrc.2.2.2.1 e_9) (cwX11_216 S.2.2.2.2 (rm := (rmSC1 d)) rfl rfl ⟨by dsimp only [rmSC1]; omega, by dsimp only [rmSC1]; omega⟩) hB rfl hl.1 rfl (lv_room (Nat.le_of_ble_eq_true rfl)) dX11_sinceForm_33 ⟨Nat.zero_le _, Nat.zero_le _⟩ (fun H locs hB => ?_)
          refine lv_if_eq (tgt := 43) S.1 S.2.1 dX11_sinceForm_36 (by decide) (fun c_10 => ?_) (fun c_10 => ?_)
          · replace h := (if_pos c_10).symm.trans h
            refine lv_iconst (v := (0 : Int32)) S.1 S.2.1 dX11_sinceForm_43 (by decide) ?_
            cases h
            exact gRetZ S.1 S.2.1 hr hlk hB rfl dX11_sinceForm_44
          · replace h := (if_neg c_10).symm.trans h
            refine lv_iconst (v := (1 : Int32)) S.1 S.2.1 dX11_sinceForm_39 (by decide) ?_
            refine lv_goto (tgt := 44) S.1 S.2.1 dX11_sinceForm_40 (by decide) ?_
            cases h
            exact gRetZ S.1 S.2.1 hr hlk hB rfl dX11_sinceForm_44
def FX11_oneForm_42 (rc : RC) (L : Nat)  (x1 : Int32) (σ1 : MS) : Option (Int32 × MS) :=
    b2 (rc 3 (x1 + (1 : Int32)) 0 0 σ1) fun r_38 σ_38 =>
    if r_38 = 0 then
      some ((0 : Int32), σ_38)
    else
      some ((1 : Int32), σ_38)
def FX11_oneForm (rc : RC) (L : Nat) (p0 : Int32) (σ : MS) : Option (Int32 × MS) :=
  b2 (FX11_which L (σ.1 7) 3 σ) fun r_1 σ_1 =>
  if r_1 = (-1 : Int32) then
    b2 (FX11_sees L 18 σ_1) fun r_3 σ_3 =>
    if r_3 = 0 then
      b2 (FX11_sees L 20 σ_3) fun r_5 σ_5 =>
      if r_5 = 0 then
        b2 (FX11_sees L 21 σ_5) fun r_9 σ_9 =>
        if r_9 = 0 then
          b2 (FX11_sees L 22 σ_9) fun r_11 σ_11 =>
          if r_11 = 0 then
            b2 (rc 4 p0 0 0 σ_11) fun r_13 σ_13 =>
            if r_13 = 0 then
              some ((0 : Int32), σ_13)
            else
              b2 (FX11_which L (σ_13.1 7) 1 σ_13) fun r_15 σ_15 =>
              if r_15 = (-1 : Int32) then
                some ((0 : Int32), σ_15)
              else
                b2 (FX11_goes σ_15) fun r_17 σ_17 =>
                if r_17 = 0 then
                  some ((0 : Int32), σ_17)
                else
                  b2 (rc 4 p0 0 0 σ_17) fun r_19 σ_19 =>
                  if r_19 = 0 then
                    some ((0 : Int32), σ_19)
                  else
                    some ((1 : Int32), σ_19)
          else
            b2 (FX11_goes σ_11) fun r_21 σ_21 =>
            if r_21 = 0 then
              some ((0 : Int32), σ_21)
            else
              b2 (FX11_takesName L σ_21) fun r_23 σ_23 =>
              if r_23 = 0 then
                some ((0 : Int32), σ_23)
              else
                some ((1 : Int32), σ_23)
        else
          b2 (FX11_goes σ_9) fun r_25 σ_25 =>
          if (r_25 ≠ 0 ∧ r_25 ≠ 1) then none else
          some (r_25, σ_25)
      else
        b2 (FX11_goes σ_5) fun r_7 σ_7 =>
        if (r_7 ≠ 0 ∧ r_7 ≠ 1) then none else
        some (r_7, σ_7)
    else
      if (10 : Int32) ≤ p0 then
        some ((0 : Int32), σ_3)
      else
        b2 (FX11_goes σ_3) fun r_28 σ_28 =>
        if r_28 = 0 then
          some ((0 : Int32), σ_28)
        else
          b2 (rc 0 (p0 + (1 : Int32)) 0 0 σ_28) fun r_30 σ_30 =>
          if r_30 = 0 then
            some ((0 : Int32), σ_30)
          else
            b2 (FX11_takes L 19 σ_30) fun r_32 σ_32 =>
            if r_32 = 0 then
              some ((0 : Int32), σ_32)
            else
              some ((1 : Int32), σ_32)
  else
    if (10 : Int32) ≤ p0 then
      some ((0 : Int32), σ_1)
    else
      b2 (FX11_goes σ_1) fun r_35 σ_35 =>
      if r_35 = 0 then
        some ((0 : Int32), σ_35)
      else
        if r_1 < (4 : Int32) then
          FX11_oneForm_42 rc L p0 σ_35
        else
          b2 (FX11_boundsForm L σ_35) fun r_40 σ_40 =>
          if r_40 = 0 then
            some ((0 : Int32), σ_40)
          else
            FX11_oneForm_42 rc L p0 σ_40
set_option maxRecDepth 100000 in
set_option maxHeartbeats 4000000 in
theorem kX11_oneForm {l : Launch} {D : va_G} {cI cJ : ClassId} {ad : Nat → Nat} {adK adV tK : Nat → Nat} {L : Nat} {d : Nat} {rc : RC} (hrc : SC1 l D cI cJ ad adK adV tK d rc) {p0 : Int32} {σ σ' : MS} {r : Int32} (h : FX11_oneForm rc L p0 σ = some (r, σ')) : gMet l yX11_oneForm qX11_oneForm (rmSC1 (d + 1)) 0 0 D vwCl [(cI, .int), (cJ, .long)] (mKS adK adV tK) [.ref (ad 0), .int p0] (MW cI cJ ad σ) (MW cI cJ ad σ') (some (.int r)) := by
  refine gMet.of (cc := cX11_oneForm) (maxL := 3) (ret := (some .boolean)) (by decide) rfl (Nat.le_of_ble_eq_true rfl) ?_
  intro p e s m args below meth c S hr hlk hnm hK hKS hA hB ls hl
  have hl : lv_has ls 3 [(0, .ref (ad 0)), (1, .int p0)] := hl
  replace S : CallFix p m c cX11_oneForm 3 s args (_ :: wsL_law) RX11 := S
  rw [FX11_oneForm] at h
  have P42 : ∀ (x1 : Int32) (σ1 : MS) (H : Heap) (locs : List Loc) (ls : Array Slot), FX11_oneForm_42 rc L x1 σ1 = some (r, σ') → gB D vwCl (va_A (MW cI cJ ad σ) s.heap.size) s.heap (MW cI cJ ad σ1) [] H locs → lv_has ls 3 [(0, .ref (ad 0)), (1, .int x1)] → W p l e (rmSC1 (d + 1)) s m args below meth c H locs 0 0 (MQ below (gQ D vwCl (MW cI cJ ad σ) (MW cI cJ ad σ') (some (.int r)) s.heap.size) args s 0 0 (va_A (MW cI cJ ad σ) s.heap.size)) (F0 m 42 ls []) := by
    intro  x1 σ1 H locs ls h hB hl
    rw [FX11_oneForm_42] at h
    refine lv_aload_n S.1 S.2.1 dX11_oneForm_42 rfl (lv_at hl 0 rfl) ?_
    refine lv_iload_n S.1 S.2.1 dX11_oneForm_43 rfl (lv_at hl 1 rfl) ?_
    refine lv_iconst (v := (1 : Int32)) S.1 S.2.1 dX11_oneForm_44 (by decide) ?_
    refine lv_iadd S.1 S.2.1 dX11_oneForm_45 ?_
    obtain ⟨r_38, σ_38, e_38, h⟩ := b2s h
    refine mCallI S hK mKSc hKS hA (hrc.2.2.2.1 e_38) (cwX11_216 S.2.2.2.2 (rm := (rmSC1 d)) rfl rfl ⟨by dsimp only [rmSC1]; omega, by dsimp only [rmSC1]; omega⟩) hB rfl hl.1 rfl (lv_room (Nat.le_of_ble_eq_true rfl)) dX11_oneForm_46 ⟨Nat.zero_le _, Nat.zero_le _⟩ (fun H locs hB => ?_)
    refine lv_if_eq (tgt := 56) S.1 S.2.1 dX11_oneForm_49 (by decide) (fun c_39 => ?_) (fun c_39 => ?_)
    · replace h := (if_pos c_39).symm.trans h
      refine lv_iconst (v := (0 : Int32)) S.1 S.2.1 dX11_oneForm_56 (by decide) ?_
      cases h
      exact gRetZ S.1 S.2.1 hr hlk hB rfl dX11_oneForm_57
    · replace h := (if_neg c_39).symm.trans h
      refine lv_iconst (v := (1 : Int32)) S.1 S.2.1 dX11_oneForm_52 (by decide) ?_
      refine lv_goto (tgt := 57) S.1 S.2.1 dX11_oneForm_53 (by decide) ?_
      cases h
      exact gRetZ S.1 S.2.1 hr hlk hB rfl dX11_oneForm_57
  refine lv_aload_n S.1 S.2.1 dX11_oneForm_0 rfl (lv_at hl 0 rfl) ?_
  refine lv_aload_n S.1 S.2.1 dX11_oneForm_1 rfl (lv_at hl 0 rfl) ?_
  refine mg_at S hK hB wf_X11_152 rfl dX11_oneForm_2 ?_
  refine va_gets S.1 S.2.1 (hKS.2.2.2.2 3 (by decide)).1 hB.2.2 S.2.2.2.1 (S.2.2.2.2 _ (List.mem_cons_of_mem _ wf_X11_230)) (fun _ h => h) dX11_oneForm_5 ?_
  obtain ⟨r_1, σ_1, e_1, h⟩ := b2s h
  refine mCallI S hK mKSc hKS hA (gMet.weak (kX11_which (xt := (tK 3)) e_1) (fun _ _ q => ⟨q, (q.2.2.2.2 3 (by decide)).2⟩)) (cwX11_146 S.2.2.2.2 (rm := rmX11_which) rfl rfl ⟨by dsimp only [rmSC1, rmX11_which]; omega, by dsimp only [rmSC1, rmX11_which]; omega⟩) hB rfl hl.1 rfl (lv_room (Nat.le_of_ble_eq_true rfl)) dX11_oneForm_8 ⟨Nat.zero_le _, Nat.zero_le _⟩ (fun H locs hB => ?_)
  refine lv_istore_n (lv' := [(2, .int r_1), (0, .ref (ad 0)), (1, .int p0)]) S.1 S.2.1 dX11_oneForm_11 rfl hl (by decide) rfl (fun ls hl => ?_)
  refine lv_iload_n S.1 S.2.1 dX11_oneForm_12 rfl (lv_at hl 0 rfl) ?_
  refine lv_iconst (v := (-1 : Int32)) S.1 S.2.1 dX11_oneForm_13 (by decide) ?_
  refine lv_icmp_eq (tgt := 58) S.1 S.2.1 dX11_oneForm_14 (by decide) (fun c_2 => ?_) (fun c_2 => ?_)
  · replace h := (if_pos c_2).symm.trans h
    refine lv_aload_n S.1 S.2.1 dX11_oneForm_58 rfl (lv_at hl 1 rfl) ?_
    refine va_ldcS S.1 S.2.1 S.2.2.2.1 (hKS.2.1 (RX11, 233, "{", 18) (List.mem_of_getElem? (i := 18) rfl)) dX11_oneForm_59 ?_
    obtain ⟨r_3, σ_3, e_3, h⟩ := b2s h
    refine mCallI S hK mKSc hKS hA (kX11_sees e_3) (cwX11_155 S.2.2.2.2 (rm := rmX11_sees) rfl rfl ⟨by dsimp only [rmSC1, rmX11_sees]; omega, by dsimp only [rmSC1, rmX11_sees]; omega⟩) hB rfl hl.1 rfl (lv_room (Nat.le_of_ble_eq_true rfl)) dX11_oneForm_61 ⟨Nat.zero_le _, Nat.zero_le _⟩ (fun H locs hB => ?_)
    refine lv_if_eq (tgt := 105) S.1 S.2.1 dX11_oneForm_64 (by decide) (fun c_4 => ?_) (fun c_4 => ?_)
    · replace h := (if_pos c_4).symm.trans h
      refine lv_aload_n S.1 S.2.1 dX11_oneForm_105 rfl (lv_at hl 1 rfl) ?_
      refine va_ldcS S.1 S.2.1 S.2.2.2.1 (hKS.2.1 (RX11, 237, "true", 20) (List.mem_of_getElem? (i := 20) rfl)) dX11_oneForm_106 ?_
      obtain ⟨r_5, σ_5, e_5, h⟩ := b2s h
      refine mCallI S hK mKSc hKS hA (kX11_sees e_5) (cwX11_155 S.2.2.2.2 (rm := rmX11_sees) rfl rfl ⟨by dsimp only [rmSC1, rmX11_sees]; omega, by dsimp only [rmSC1, rmX11_sees]; omega⟩) hB rfl hl.1 rfl (lv_room (Nat.le_of_ble_eq_true rfl)) dX11_oneForm_108 ⟨Nat.zero_le _, Nat.zero_le _⟩ (fun H locs hB => ?_)
      refine lv_if_ne (tgt := 123) S.1 S.2.1 dX11_oneForm_111 (by decide) (fun c_6 => ?_) (fun c_6 => ?_)
      · replace h := (if_neg c_6).symm.trans h
        refine lv_aload_n S.1 S.2.1 dX11_oneForm_123 rfl (lv_at hl 1 rfl) ?_
        obtain ⟨r_7, σ_7, e_7, h⟩ := b2s h
        refine mCallI S hK mKSc hKS hA (kX11_goes mKSc e_7) (cwX11_159 S.2.2.2.2 (rm := rmX11_goes) rfl rfl ⟨by dsimp only [rmSC1, rmX11_goes]; omega, by dsimp only [rmSC1, rmX11_goes]; omega⟩) hB rfl hl.1 rfl (lv_room (Nat.le_of_ble_eq_true rfl)) dX11_oneForm_124 ⟨Nat.zero_le _, Nat.zero_le _⟩ (fun H locs hB => ?_)
        obtain ⟨z_8, h⟩ := gd h
        cases h
        exact gRetZ S.1 S.2.1 hr hlk hB (nzB z_8) dX11_oneForm_127
      · replace h := (if_pos c_6).symm.trans h
        refine lv_aload_n S.1 S.2.1 dX11_oneForm_114 rfl (lv_at hl 1 rfl) ?_
        refine va_ldcS S.1 S.2.1 S.2.2.2.1 (hKS.2.1 (RX11, 239, "false", 21) (List.mem_of_getElem? (i := 21) rfl)) dX11_oneForm_115 ?_
        obtain ⟨r_9, σ_9, e_9, h⟩ := b2s h
        refine mCallI S hK mKSc hKS hA (kX11_sees e_9) (cwX11_155 S.2.2.2.2 (rm := rmX11_sees) rfl rfl ⟨by dsimp only [rmSC1, rmX11_sees]; omega, by dsimp only [rmSC1, rmX11_sees]; omega⟩) hB rfl hl.1 rfl (lv_room (Nat.le_of_ble_eq_true rfl)) dX11_oneForm_117 ⟨Nat.zero_le _, Nat.zero_le _⟩ (fun H locs hB => ?_)
        refine lv_if_eq (tgt := 128) S.1 S.2.1 dX11_oneForm_120 (by decide) (fun c_10 => ?_) (fun c_10 => ?_)
        · replace h := (if_pos c_10).symm.trans h
          refine lv_aload_n S.1 S.2.1 dX11_oneForm_128 rfl (lv_at hl 1 rfl) ?_
          refine va_ldcS S.1 S.2.1 S.2.2.2.1 (hKS.2.1 (RX11, 241, "is", 22) (List.mem_of_getElem? (i := 22) rfl)) dX11_oneForm_129 ?_
          obtain ⟨r_11, σ_11, e_11, h⟩ := b2s h
          refine mCallI S hK mKSc hKS hA (kX11_sees e_11) (cwX11_155 S.2.2.2.2 (rm := rmX11_sees) rfl rfl ⟨by dsimp only [rmSC1, rmX11_sees]; omega, by dsimp only [rmSC1, rmX11_sees]; omega⟩) hB rfl hl.1 rfl (lv_room (Nat.le_of_ble_eq_true rfl)) dX11_oneForm_131 ⟨Nat.zero_le _, Nat.zero_le _⟩ (fun H locs hB => ?_)
          refine lv_if_eq (tgt := 157) S.1 S.2.1 dX11_oneForm_134 (by decide) (fun c_12 => ?_) (fun c_12 => ?_)
          · replace h := (if_pos c_12).symm.trans h
            refine lv_aload_n S.1 S.2.1 dX11_oneForm_157 rfl (lv_at hl 1 rfl) ?_
            refine lv_iload_n S.1 S.2.1 dX11_oneForm_158 rfl (lv_at hl 2 rfl) ?_
            obtain ⟨r_13, σ_13, e_13, h⟩ := b2s h
            refine mCallI S hK mKSc hKS hA (hrc.2.2.2.2.1 e_13) (cwX11_195 S.2.2.2.2 (rm := (rmSC1 d)) rfl rfl ⟨by dsimp only [rmSC1]; omega, by dsimp only [rmSC1]; omega⟩) hB rfl hl.1 rfl (lv_room (Nat.le_of_ble_eq_true rfl)) dX11_oneForm_159 ⟨Nat.zero_le _, Nat.zero_le _⟩ (fun H locs hB => ?_)
            refine lv_if_eq (tgt := 199) S.1 S.2.1 dX11_oneForm_162 (by decide) (fun c_14 => ?_) (fun c_14 => ?_)
            · replace h := (if_pos c_14).symm.trans h
              refine lv_iconst (v := (0 : Int32)) S.1 S.2.1 dX11_oneForm_199 (by decide) ?_
              cases h
              exact gRetZ S.1 S.2.1 hr hlk hB rfl dX11_oneForm_200
            · replace h := (if_neg c_14).symm.trans h
              refine lv_aload_n S.1 S.2.1 dX11_oneForm_165 rfl (lv_at hl 1 rfl) ?_
              refine lv_aload_n S.1 S.2.1 dX11_oneForm_166 rfl (lv_at hl 1 rfl) ?_
              refine mg_at S hK hB wf_X11_152 rfl dX11_oneForm_167 ?_
              refine va_gets S.1 S.2.1 (hKS.2.2.2.2 1 (by decide)).1 hB.2.2 S.2.2.2.1 (S.2.2.2.2 _ (List.mem_cons_of_mem _ wf_X11_242)) (fun _ h => h) dX11_oneForm_170 ?_
              obtain ⟨r_15, σ_15, e_15, h⟩ := b2s h
              refine mCallI S hK mKSc hKS hA (gMet.weak (kX11_which (xt := (tK 1)) e_15) (fun _ _ q => ⟨q, (q.2.2.2.2 1 (by decide)).2⟩)) (cwX11_146 S.2.2.2.2 (rm := rmX11_which) rfl rfl ⟨by dsimp only [rmSC1, rmX11_which]; omega, by dsimp only [rmSC1, rmX11_which]; omega⟩) hB rfl hl.1 rfl (lv_room (Nat.le_of_ble_eq_true rfl)) dX11_oneForm_173 ⟨Nat.zero_le _, Nat.zero_le _⟩ (fun H locs hB => ?_)
              refine lv_iconst (v := (-1 : Int32)) S.1 S.2.1 dX11_oneForm_176 (by decide) ?_
              refine lv_icmp_eq (tgt := 199) S.1 S.2.1 dX11_oneForm_177 (by decide) (fun c_16 => ?_) (fun c_16 => ?_)
              · replace h := (if_pos c_16).symm.trans h
                refine lv_iconst (v := (0 : Int32)) S.1 S.2.1 dX11_oneForm_199 (by decide) ?_
                cases h
                exact gRetZ S.1 S.2.1 hr hlk hB rfl dX11_oneForm_200
              · replace h := (if_neg c_16).symm.trans h
                refine lv_aload_n S.1 S.2.1 dX11_oneForm_180 rfl (lv_at hl 1 rfl) ?_
                obtain ⟨r_17, σ_17, e_17, h⟩ := b2s h
                refine mCallI S hK mKSc hKS hA (kX11_goes mKSc e_17) (cwX11_159 S.2.2.2.2 (rm := rmX11_goes) rfl rfl ⟨by dsimp only [rmSC1, rmX11_goes]; omega, by dsimp only [rmSC1, rmX11_goes]; omega⟩) hB rfl hl.1 rfl (lv_room (Nat.le_of_ble_eq_true rfl)) dX11_oneForm_181 ⟨Nat.zero_le _, Nat.zero_le _⟩ (fun H locs hB => ?_)
                refine lv_if_eq (tgt := 199) S.1 S.2.1 dX11_oneForm_184 (by decide) (fun c_18 => ?_) (fun c_18 => ?_)
                · replace h := (if_pos c_18).symm.trans h
                  refine lv_iconst (v := (0 : Int32)) S.1 S.2.1 dX11_oneForm_199 (by decide) ?_
                  cases h
                  exact gRetZ S.1 S.2.1 hr hlk hB rfl dX11_oneForm_200
                · replace h := (if_neg c_18).symm.trans h
                  refine lv_aload_n S.1 S.2.1 dX11_oneForm_187 rfl (lv_at hl 1 rfl) ?_
                  refine lv_iload_n S.1 S.2.1 dX11_oneForm_188 rfl (lv_at hl 2 rfl) ?_
                  obtain ⟨r_19, σ_19, e_19, h⟩ := b2s h
                  refine mCallI S hK mKSc hKS hA (hrc.2.2.2.2.1 e_19) (cwX11_195 S.2.2.2.2 (rm := (rmSC1 d)) rfl rfl ⟨by dsimp only [rmSC1]; omega, by dsimp only [rmSC1]; omega⟩) hB rfl hl.1 rfl (lv_room (Nat.le_of_ble_eq_true rfl)) dX11_oneForm_189 ⟨Nat.zero_le _, Nat.zero_le _⟩ (fun H locs hB => ?_)
                  refine lv_if_eq (tgt := 199) S.1 S.2.1 dX11_oneForm_192 (by decide) (fun c_20 => ?_) (fun c_20 => ?_)
                  · replace h := (if_pos c_20).symm.trans h
                    refine lv_iconst (v := (0 : Int32)) S.1 S.2.1 dX11_oneForm_199 (by decide) ?_
                    cases h
                    exact gRetZ S.1 S.2.1 hr hlk hB rfl dX11_oneForm_200
                  · replace h := (if_neg c_20).symm.trans h
                    refine lv_iconst (v := (1 : Int32)) S.1 S.2.1 dX11_oneForm_195 (by decide) ?_
                    refine lv_goto (tgt := 200) S.1 S.2.1 dX11_oneForm_196 (by decide) ?_
                    cases h
                    exact gRetZ S.1 S.2.1 hr hlk hB rfl dX11_oneForm_200
          · replace h := (if_neg c_12).symm.trans h
            refine lv_aload_n S.1 S.2.1 dX11_oneForm_137 rfl (lv_at hl 1 rfl) ?_
            obtain ⟨r_21, σ_21, e_21, h⟩ := b2s h
            refine mCallI S hK mKSc hKS hA (kX11_goes mKSc e_21) (cwX11_159 S.2.2.2.2 (rm := rmX11_goes) rfl rfl ⟨by dsimp only [rmSC1, rmX11_goes]; omega, by dsimp only [rmSC1, rmX11_goes]; omega⟩) hB rfl hl.1 rfl (lv_room (Nat.le_of_ble_eq_true rfl)) dX11_oneForm_138 ⟨Nat.zero_le _, Nat.zero_le _⟩ (fun H locs hB => ?_)
            refine lv_if_eq (tgt := 155) S.1 S.2.1 dX11_oneForm_141 (by decide) (fun c_22 => ?_) (fun c_22 => ?_)
            · replace h := (if_pos c_22).symm.trans h
              refine lv_iconst (v := (0 : Int32)) S.1 S.2.1 dX11_oneForm_155 (by decide) ?_
              cases h
              exact gRetZ S.1 S.2.1 hr hlk hB rfl dX11_oneForm_156
            · replace h := (if_neg c_22).symm.trans h
              refine lv_aload_n S.1 S.2.1 dX11_oneForm_144 rfl (lv_at hl 1 rfl) ?_
              obtain ⟨r_23, σ_23, e_23, h⟩ := b2s h
              refine mCallI S hK mKSc hKS hA (kX11_takesName e_23) (cwX11_174 S.2.2.2.2 (rm := rmX11_takesName) rfl rfl ⟨by dsimp only [rmSC1, rmX11_takesName]; omega, by dsimp only [rmSC1, rmX11_takesName]; omega⟩) hB rfl hl.1 rfl (lv_room (Nat.le_of_ble_eq_true rfl)) dX11_oneForm_145 ⟨Nat.zero_le _, Nat.zero_le _⟩ (fun H locs hB => ?_)
              refine lv_if_eq (tgt := 155) S.1 S.2.1 dX11_oneForm_148 (by decide) (fun c_24 => ?_) (fun c_24 => ?_)
              · replace h := (if_pos c_24).symm.trans h
                refine lv_iconst (v := (0 : Int32)) S.1 S.2.1 dX11_oneForm_155 (by decide) ?_
                cases h
                exact gRetZ S.1 S.2.1 hr hlk hB rfl dX11_oneForm_156
              · replace h := (if_neg c_24).symm.trans h
                refine lv_iconst (v := (1 : Int32)) S.1 S.2.1 dX11_oneForm_151 (by decide) ?_
                refine lv_goto (tgt := 156) S.1 S.2.1 dX11_oneForm_152 (by decide) ?_
                cases h
                exact gRetZ S.1 S.2.1 hr hlk hB rfl dX11_oneForm_156
        · replace h := (if_neg c_10).symm.trans h
          refine lv_aload_n S.1 S.2.1 dX11_oneForm_123 rfl (lv_at hl 1 rfl) ?_
          obtain ⟨r_25, σ_25, e_25, h⟩ := b2s h
          refine mCallI S hK mKSc hKS hA (kX11_goes mKSc e_25) (cwX11_159 S.2.2.2.2 (rm := rmX11_goes) rfl rfl ⟨by dsimp only [rmSC1, rmX11_goes]; omega, by dsimp only [rmSC1, rmX11_goes]; omega⟩) hB rfl hl.1 rfl (lv_room (Nat.le_of_ble_eq_true rfl)) dX11_oneForm_124 ⟨Nat.zero_le _, Nat.zero_le _⟩ (fun H locs hB => ?_)
          obtain ⟨z_26, h⟩ := gd h
          cases h
          exact gRetZ S.1 S.2.1 hr hlk hB (nzB z_26) dX11_oneForm_127
    · replace h := (if_neg c_4).symm.trans h
      refine lv_iload_n S.1 S.2.1 dX11_oneForm_67 rfl (lv_at hl 2 rfl) ?_
      refine lv_bipush (v := (10 : Int32)) S.1 S.2.1 dX11_oneForm_68 (by decide) ?_
      refine lv_icmp_ge (tgt := 103) S.1 S.2.1 dX11_oneForm_70 (by decide) (fun c_27 => ?_) (fun c_27 => ?_)
      · replace h := (if_pos c_27).symm.trans h
        refine lv_iconst (v := (0 : Int32)) S.1 S.2.1 dX11_oneForm_103 (by decide) ?_
        cases h
        exact gRetZ S.1 S.2.1 hr hlk hB rfl dX11_oneForm_104
      · replace h := (if_neg c_27).symm.trans h
        refine lv_aload_n S.1 S.2.1 dX11_oneForm_73 rfl (lv_at hl 1 rfl) ?_
        obtain ⟨r_28, σ_28, e_28, h⟩ := b2s h
        refine mCallI S hK mKSc hKS hA (kX11_goes mKSc e_28) (cwX11_159 S.2.2.2.2 (rm := rmX11_goes) rfl rfl ⟨by dsimp only [rmSC1, rmX11_goes]; omega, by dsimp only [rmSC1, rmX11_goes]; omega⟩) hB rfl hl.1 rfl (lv_room (Nat.le_of_ble_eq_true rfl)) dX11_oneForm_74 ⟨Nat.zero_le _, Nat.zero_le _⟩ (fun H locs hB => ?_)
        refine lv_if_eq (tgt := 103) S.1 S.2.1 dX11_oneForm_77 (by decide) (fun c_29 => ?_) (fun c_29 => ?_)
        · replace h := (if_pos c_29).symm.trans h
          refine lv_iconst (v := (0 : Int32)) S.1 S.2.1 dX11_oneForm_103 (by decide) ?_
          cases h
          exact gRetZ S.1 S.2.1 hr hlk hB rfl dX11_oneForm_104
        · replace h := (if_neg c_29).symm.trans h
          refine lv_aload_n S.1 S.2.1 dX11_oneForm_80 rfl (lv_at hl 1 rfl) ?_
          refine lv_iload_n S.1 S.2.1 dX11_oneForm_81 rfl (lv_at hl 2 rfl) ?_
          refine lv_iconst (v := (1 : Int32)) S.1 S.2.1 dX11_oneForm_82 (by decide) ?_
          refine lv_iadd S.1 S.2.1 dX11_oneForm_83 ?_
          obtain ⟨r_30, σ_30, e_30, h⟩ := b2s h
          refine mCallI S hK mKSc hKS hA (hrc.1 e_30) (cwX11_190 S.2.2.2.2 (rm := (rmSC1 d)) rfl rfl ⟨by dsimp only [rmSC1]; omega, by dsimp only [rmSC1]; omega⟩) hB rfl hl.1 rfl (lv_room (Nat.le_of_ble_eq_true rfl)) dX11_oneForm_84 ⟨Nat.zero_le _, Nat.zero_le _⟩ (fun H locs hB => ?_)
          refine lv_if_eq (tgt := 103) S.1 S.2.1 dX11_oneForm_87 (by decide) (fun c_31 => ?_) (fun c_31 => ?_)
          · replace h := (if_pos c_31).symm.trans h
            refine lv_iconst (v := (0 : Int32)) S.1 S.2.1 dX11_oneForm_103 (by decide) ?_
            cases h
            exact gRetZ S.1 S.2.1 hr hlk hB rfl dX11_oneForm_104
          · replace h := (if_neg c_31).symm.trans h
            refine lv_aload_n S.1 S.2.1 dX11_oneForm_90 rfl (lv_at hl 1 rfl) ?_
            refine va_ldcS S.1 S.2.1 S.2.2.2.1 (hKS.2.1 (RX11, 235, "}", 19) (List.mem_of_getElem? (i := 19) rfl)) dX11_oneForm_91 ?_
            obtain ⟨r_32, σ_32, e_32, h⟩ := b2s h
            refine mCallI S hK mKSc hKS hA (kX11_takes e_32) (cwX11_171 S.2.2.2.2 (rm := rmX11_takes) rfl rfl ⟨by dsimp only [rmSC1, rmX11_takes]; omega, by dsimp only [rmSC1, rmX11_takes]; omega⟩) hB rfl hl.1 rfl (lv_room (Nat.le_of_ble_eq_true rfl)) dX11_oneForm_93 ⟨Nat.zero_le _, Nat.zero_le _⟩ (fun H locs hB => ?_)
            refine lv_if_eq (tgt := 103) S.1 S.2.1 dX11_oneForm_96 (by decide) (fun c_33 => ?_) (fun c_33 => ?_)
            · replace h := (if_pos c_33).symm.trans h
              refine lv_iconst (v := (0 : Int32)) S.1 S.2.1 dX11_oneForm_103 (by decide) ?_
              cases h
              exact gRetZ S.1 S.2.1 hr hlk hB rfl dX11_oneForm_104
            · replace h := (if_neg c_33).symm.trans h
              refine lv_iconst (v := (1 : Int32)) S.1 S.2.1 dX11_oneForm_99 (by decide) ?_
              refine lv_goto (tgt := 104) S.1 S.2.1 dX11_oneForm_100 (by decide) ?_
              cases h
              exact gRetZ S.1 S.2.1 hr hlk hB rfl dX11_oneForm_104
  · replace h := (if_neg c_2).symm.trans h
    refine lv_iload_n S.1 S.2.1 dX11_oneForm_17 rfl (lv_at hl 2 rfl) ?_
    refine lv_bipush (v := (10 : Int32)) S.1 S.2.1 dX11_oneForm_18 (by decide) ?_
    refine lv_icmp_ge (tgt := 56) S.1 S.2.1 dX11_oneForm_20 (by decide) (fun c_34 => ?_) (fun c_34 => ?_)
    · replace h := (if_pos c_34).symm.trans h
      refine lv_iconst (v := (0 : Int32)) S.1 S.2.1 dX11_oneForm_56 (by decide) ?_
      cases h
      exact gRetZ S.1 S.2.1 hr hlk hB rfl dX11_oneForm_57
    · replace h := (if_neg c_34).symm.trans h
      refine lv_aload_n S.1 S.2.1 dX11_oneForm_23 rfl (lv_at hl 1 rfl) ?_
      obtain ⟨r_35, σ_35, e_35, h⟩ := b2s h
      refine mCallI S hK mKSc hKS hA (kX11_goes mKSc e_35) (cwX11_159 S.2.2.2.2 (rm := rmX11_goes) rfl rfl ⟨by dsimp only [rmSC1, rmX11_goes]; omega, by dsimp only [rmSC1, rmX11_goes]; omega⟩) hB rfl hl.1 rfl (lv_room (Nat.le_of_ble_eq_true rfl)) dX11_oneForm_24 ⟨Nat.zero_le _, Nat.zero_le _⟩ (fun H locs hB => ?_)
      refine lv_if_eq (tgt := 56) S.1 S.2.1 dX11_oneForm_27 (by decide) (fun c_36 => ?_) (fun c_36 => ?_)
      · replace h := (if_pos c_36).symm.trans h
        refine lv_iconst (v := (0 : Int32)) S.1 S.2.1 dX11_oneForm_56 (by decide) ?_
        cases h
        exact gRetZ S.1 S.2.1 hr hlk hB rfl dX11_oneForm_57
      · replace h := (if_neg c_36).symm.trans h
        refine lv_iload_n S.1 S.2.1 dX11_oneForm_30 rfl (lv_at hl 0 rfl) ?_
        refine lv_iconst (v := (4 : Int32)) S.1 S.2.1 dX11_oneForm_31 (by decide) ?_
        refine lv_icmp_lt (tgt := 42) S.1 S.2.1 dX11_oneForm_32 (by decide) (fun c_37 => ?_) (fun c_37 => ?_)
        · replace h := (if_pos c_37).symm.trans h
          exact P42  _ _ _ _ _ h hB (lv_sub hl [1, 2] rfl)
        · replace h := (if_neg c_37).symm.trans h
          refine lv_aload_n S.1 S.2.1 dX11_oneForm_35 rfl (lv_at hl 1 rfl) ?_
          obtain ⟨r_40, σ_40, e_40, h⟩ := b2s h
          refine mCallI S hK mKSc hKS hA (kX11_boundsForm e_40) (cwX11_221 S.2.2.2.2 (rm := rmX11_boundsForm) rfl rfl ⟨by dsimp only [rmSC1, rmX11_boundsForm]; omega, by dsimp only [rmSC1, rmX11_boundsForm]; omega⟩) hB rfl hl.1 rfl (lv_room (Nat.le_of_ble_eq_true rfl)) dX11_oneForm_36 ⟨Nat.zero_le _, Nat.zero_le _⟩ (fun H locs hB => ?_)
          refine lv_if_eq (tgt := 56) S.1 S.2.1 dX11_oneForm_39 (by decide) (fun c_41 => ?_) (fun c_41 => ?_)
          · replace h := (if_pos c_41).symm.trans h
            refine lv_iconst (v := (0 : Int32)) S.1 S.2.1 dX11_oneForm_56 (by decide) ?_
            cases h
            exact gRetZ S.1 S.2.1 hr hlk hB rfl dX11_oneForm_57
          · replace h := (if_neg c_41).symm.trans h
            exact P42  _ _ _ _ _ h hB (lv_sub hl [1, 2] rfl)
def FX11_expressionForm_28 (rc : RC) (L : Nat) (k10 : Int32 → MS → Option (Int32 × MS)) (x1 : Int32) (σ1 : MS) : Option (Int32 × MS) :=
    b2 (FX11_goes σ1) fun r_5 σ_5 =>
    if r_5 = 0 then
      some ((0 : Int32), σ_5)
    else
      b2 (rc 5 x1 0 0 σ_5) fun r_7 σ_7 =>
      if r_7 = 0 then
        some ((0 : Int32), σ_7)
      else
        k10 x1 σ_7
def FX11_expressionForm_10 (rc : RC) (L : Nat)  : Nat → Int32 → MS → Option (Int32 × MS)
  | 0, _, _ => none
  | n+1, x1, σ1 =>
    b2 (FX11_sees L 23 σ1) fun r_3 σ_3 =>
    if r_3 = 0 then
      b2 (FX11_sees L 3 σ_3) fun r_9 σ_9 =>
      if r_9 = 0 then
        some ((1 : Int32), σ_9)
      else
        FX11_expressionForm_28 rc L (FX11_expressionForm_10 rc L n) x1 σ_9
    else
      FX11_expressionForm_28 rc L (FX11_expressionForm_10 rc L n) x1 σ_3
def FX11_expressionForm (rc : RC) (L : Nat) (p0 : Int32) (σ : MS) : Option (Int32 × MS) :=
  b2 (rc 5 p0 0 0 σ) fun r_1 σ_1 =>
  if r_1 = 0 then
    some ((0 : Int32), σ_1)
  else
    FX11_expressionForm_10 rc L L p0 σ_1
set_option maxRecDepth 100000 in
set_option maxHeartbeats 4000000 in
theorem kX11_expressionForm {l : Launch} {D : va_G} {cI cJ : ClassId} {ad : Nat → Nat} {adK adV tK : Nat → Nat} {L : Nat} {d : Nat} {rc : RC} (hrc : SC1 l D cI cJ ad adK adV tK d rc) {p0 : Int32} {σ σ' : MS} {r : Int32} (h : FX11_expressionForm rc L p0 σ = some (r, σ')) : gMet l yX11_expressionForm qX11_expressionForm (rmSC1 (d + 1)) 0 0 D vwCl [(cI, .int), (cJ, .long)] (mKS adK adV tK) [.ref (ad 0), .int p0] (MW cI cJ ad σ) (MW cI cJ ad σ') (some (.int r)) := by
  refine gMet.of (cc := cX11_expressionForm) (maxL := 2) (ret := (some .boolean)) (by decide) rfl (Nat.le_of_ble_eq_true rfl) ?_
  intro p e s m args below meth c S hr hlk hnm hK hKS hA hB ls hl
  have hl : lv_has ls 2 [(0, .ref (ad 0)), (1, .int p0)] := hl
  replace S : CallFix p m c cX11_expressionForm 2 s args (_ :: wsL_law) RX11 := S
  rw [FX11_expressionForm] at h
  have P28 : ∀ (k10 : Int32 → MS → Option (Int32 × MS)) (hk10 : ∀ (x1 : Int32) (σ1 : MS) (H : Heap) (locs : List Loc) (ls : Array Slot), k10 x1 σ1 = some (r, σ') → gB D vwCl (va_A (MW cI cJ ad σ) s.heap.size) s.heap (MW cI cJ ad σ1) [] H locs → lv_has ls 2 [(0, .ref (ad 0)), (1, .int x1)] → W p l e (rmSC1 (d + 1)) s m args below meth c H locs 0 0 (MQ below (gQ D vwCl (MW cI cJ ad σ) (MW cI cJ ad σ') (some (.int r)) s.heap.size) args s 0 0 (va_A (MW cI cJ ad σ) s.heap.size)) (F0 m 10 ls [])), ∀ (x1 : Int32) (σ1 : MS) (H : Heap) (locs : List Loc) (ls : Array Slot), FX11_expressionForm_28 rc L k10 x1 σ1 = some (r, σ') → gB D vwCl (va_A (MW cI cJ ad σ) s.heap.size) s.heap (MW cI cJ ad σ1) [] H locs → lv_has ls 2 [(0, .ref (ad 0)), (1, .int x1)] → W p l e (rmSC1 (d + 1)) s m args below meth c H locs 0 0 (MQ below (gQ D vwCl (MW cI cJ ad σ) (MW cI cJ ad σ') (some (.int r)) s.heap.size) args s 0 0 (va_A (MW cI cJ ad σ) s.heap.size)) (F0 m 28 ls []) := by
    intro k10 hk10 x1 σ1 H locs ls h hB hl
    rw [FX11_expressionForm_28] at h
    refine lv_aload_n S.1 S.2.1 dX11_expressionForm_28 rfl (lv_at hl 0 rfl) ?_
    obtain ⟨r_5, σ_5, e_5, h⟩ := b2s h
    refine mCallI S hK mKSc hKS hA (kX11_goes mKSc e_5) (cwX11_159 S.2.2.2.2 (rm := rmX11_goes) rfl rfl ⟨by dsimp only [rmSC1, rmX11_goes]; omega, by dsimp only [rmSC1, rmX11_goes]; omega⟩) hB rfl hl.1 rfl (lv_room (Nat.le_of_ble_eq_true rfl)) dX11_expressionForm_29 ⟨Nat.zero_le _, Nat.zero_le _⟩ (fun H locs hB => ?_)
    refine lv_if_eq (tgt := 43) S.1 S.2.1 dX11_expressionForm_32 (by decide) (fun c_6 => ?_) (fun c_6 => ?_)
    · replace h := (if_pos c_6).symm.trans h
      refine lv_iconst (v := (0 : Int32)) S.1 S.2.1 dX11_expressionForm_43 (by decide) ?_
      cases h
      exact gRetZ S.1 S.2.1 hr hlk hB rfl dX11_expressionForm_44
    · replace h := (if_neg c_6).symm.trans h
      refine lv_aload_n S.1 S.2.1 dX11_expressionForm_35 rfl (lv_at hl 0 rfl) ?_
      refine lv_iload_n S.1 S.2.1 dX11_expressionForm_36 rfl (lv_at hl 1 rfl) ?_
      obtain ⟨r_7, σ_7, e_7, h⟩ := b2s h
      refine mCallI S hK mKSc hKS hA (hrc.2.2.2.2.2.1 e_7) (cwX11_245 S.2.2.2.2 (rm := (rmSC1 d)) rfl rfl ⟨by dsimp only [rmSC1]; omega, by dsimp only [rmSC1]; omega⟩) hB rfl hl.1 rfl (lv_room (Nat.le_of_ble_eq_true rfl)) dX11_expressionForm_37 ⟨Nat.zero_le _, Nat.zero_le _⟩ (fun H locs hB => ?_)
      refine lv_if_ne (tgt := 10) S.1 S.2.1 dX11_expressionForm_40 (by decide) (fun c_8 => ?_) (fun c_8 => ?_)
      · replace h := (if_neg c_8).symm.trans h
        exact hk10 _ _ _ _ _ h hB hl
      · replace h := (if_pos c_8).symm.trans h
        refine lv_iconst (v := (0 : Int32)) S.1 S.2.1 dX11_expressionForm_43 (by decide) ?_
        cases h
        exact gRetZ S.1 S.2.1 hr hlk hB rfl dX11_expressionForm_44
  have P10 : ∀  (n : Nat), ∀ (x1 : Int32) (σ1 : MS) (H : Heap) (locs : List Loc) (ls : Array Slot), FX11_expressionForm_10 rc L n x1 σ1 = some (r, σ') → gB D vwCl (va_A (MW cI cJ ad σ) s.heap.size) s.heap (MW cI cJ ad σ1) [] H locs → lv_has ls 2 [(0, .ref (ad 0)), (1, .int x1)] → W p l e (rmSC1 (d + 1)) s m args below meth c H locs 0 0 (MQ below (gQ D vwCl (MW cI cJ ad σ) (MW cI cJ ad σ') (some (.int r)) s.heap.size) args s 0 0 (va_A (MW cI cJ ad σ) s.heap.size)) (F0 m 10 ls []) := by
    intro n
    induction n with
    | zero => intro x1 σ1 H locs ls h; simp only [FX11_expressionForm_10] at h; cases h
    | succ n ih =>
      intro x1 σ1 H locs ls h hB hl
      rw [FX11_expressionForm_10] at h
      refine lv_aload_n S.1 S.2.1 dX11_expressionForm_10 rfl (lv_at hl 0 rfl) ?_
      refine va_ldcS S.1 S.2.1 S.2.2.2.1 (hKS.2.1 (RX11, 248, "+", 23) (List.mem_of_getElem? (i := 23) rfl)) dX11_expressionForm_11 ?_
      obtain ⟨r_3, σ_3, e_3, h⟩ := b2s h
      refine mCallI S hK mKSc hKS hA (kX11_sees e_3) (cwX11_155 S.2.2.2.2 (rm := rmX11_sees) rfl rfl ⟨by dsimp only [rmSC1, rmX11_sees]; omega, by dsimp only [rmSC1, rmX11_sees]; omega⟩) hB rfl hl.1 rfl (lv_room (Nat.le_of_ble_eq_true rfl)) dX11_expressionForm_13 ⟨Nat.zero_le _, Nat.zero_le _⟩ (fun H locs hB => ?_)
      refine lv_if_ne (tgt := 28) S.1 S.2.1 dX11_expressionForm_16 (by decide) (fun c_4 => ?_) (fun c_4 => ?_)
      · replace h := (if_neg c_4).symm.trans h
        exact P28 (FX11_expressionForm_10 rc L n) ih _ _ _ _ _ h hB hl
      · replace h := (if_pos c_4).symm.trans h
        refine lv_aload_n S.1 S.2.1 dX11_expressionForm_19 rfl (lv_at hl 0 rfl) ?_
        refine va_ldcS S.1 S.2.1 S.2.2.2.1 (hKS.2.1 (RX11, 179, "-", 3) (List.mem_of_getElem? (i := 3) rfl)) dX11_expressionForm_20 ?_
        obtain ⟨r_9, σ_9, e_9, h⟩ := b2s h
        refine mCallI S hK mKSc hKS hA (kX11_sees e_9) (cwX11_155 S.2.2.2.2 (rm := rmX11_sees) rfl rfl ⟨by dsimp only [rmSC1, rmX11_sees]; omega, by dsimp only [rmSC1, rmX11_sees]; omega⟩) hB rfl hl.1 rfl (lv_room (Nat.le_of_ble_eq_true rfl)) dX11_expressionForm_22 ⟨Nat.zero_le _, Nat.zero_le _⟩ (fun H locs hB => ?_)
        refine lv_if_eq (tgt := 45) S.1 S.2.1 dX11_expressionForm_25 (by decide) (fun c_10 => ?_) (fun c_10 => ?_)
        · replace h := (if_pos c_10).symm.trans h
          refine lv_iconst (v := (1 : Int32)) S.1 S.2.1 dX11_expressionForm_45 (by decide) ?_
          cases h
          exact gRetZ S.1 S.2.1 hr hlk hB rfl dX11_expressionForm_46
        · replace h := (if_neg c_10).symm.trans h
          exact P28 (FX11_expressionForm_10 rc L n) ih _ _ _ _ _ h hB hl
  refine lv_aload_n S.1 S.2.1 dX11_expressionForm_0 rfl (lv_at hl 0 rfl) ?_
  refine lv_iload_n S.1 S.2.1 dX11_expressionForm_1 rfl (lv_at hl 1 rfl) ?_
  obtain ⟨r_1, σ_1, e_1, h⟩ := b2s h
  refine mCallI S hK mKSc hKS hA (hrc.2.2.2.2.2.1 e_1) (cwX11_245 S.2.2.2.2 (rm := (rmSC1 d)) rfl rfl ⟨by dsimp only [rmSC1]; omega, by dsimp only [rmSC1]; omega⟩) hB rfl hl.1 rfl (lv_room (Nat.le_of_ble_eq_true rfl)) dX11_expressionForm_2 ⟨Nat.zero_le _, Nat.zero_le _⟩ (fun H locs hB => ?_)
  refine lv_if_ne (tgt := 10) S.1 S.2.1 dX11_expressionForm_5 (by decide) (fun c_2 => ?_) (fun c_2 => ?_)
  · replace h := (if_neg c_2).symm.trans h
    exact P10  L _ _ _ _ _ h hB hl
  · replace h := (if_pos c_2).symm.trans h
    refine lv_iconst (v := (0 : Int32)) S.1 S.2.1 dX11_expressionForm_8 (by decide) ?_
    cases h
    exact gRetZ S.1 S.2.1 hr hlk hB rfl dX11_expressionForm_9
def FX11_productForm_38 (rc : RC) (L : Nat) (k10 : Int32 → MS → Option (Int32 × MS)) (x1 : Int32) (σ1 : MS) : Option (Int32 × MS) :=
    b2 (FX11_goes σ1) fun r_5 σ_5 =>
    if r_5 = 0 then
      some ((0 : Int32), σ_5)
    else
      b2 (rc 7 x1 0 0 σ_5) fun r_7 σ_7 =>
      if r_7 = 0 then
        some ((0 : Int32), σ_7)
      else
        k10 x1 σ_7
def FX11_productForm_10 (rc : RC) (L : Nat)  : Nat → Int32 → MS → Option (Int32 × MS)
  | 0, _, _ => none
  | n+1, x1, σ1 =>
    b2 (FX11_sees L 24 σ1) fun r_3 σ_3 =>
    if r_3 = 0 then
      b2 (FX11_sees L 25 σ_3) fun r_9 σ_9 =>
      if r_9 = 0 then
        b2 (FX11_sees L 26 σ_9) fun r_11 σ_11 =>
        if r_11 = 0 then
          some ((1 : Int32), σ_11)
        else
          FX11_productForm_38 rc L (FX11_productForm_10 rc L n) x1 σ_11
      else
        FX11_productForm_38 rc L (FX11_productForm_10 rc L n) x1 σ_9
    else
      FX11_productForm_38 rc L (FX11_productForm_10 rc L n) x1 σ_3
def FX11_productForm (rc : RC) (L : Nat) (p0 : Int32) (σ : MS) : Option (Int32 × MS) :=
  b2 (rc 7 p0 0 0 σ) fun r_1 σ_1 =>
  if r_1 = 0 then
    some ((0 : Int32), σ_1)
  else
    FX11_productForm_10 rc L L p0 σ_1
set_option maxRecDepth 100000 in
set_option maxHeartbeats 4000000 in
theorem kX11_productForm {l : Launch} {D : va_G} {cI cJ : ClassId} {ad : Nat → Nat} {adK adV tK : Nat → Nat} {L : Nat} {d : Nat} {rc : RC} (hrc : SC1 l D cI cJ ad adK adV tK d rc) {p0 : Int32} {σ σ' : MS} {r : Int32} (h : FX11_productForm rc L p0 σ = some (r, σ')) : gMet l yX11_productForm qX11_productForm (rmSC1 (d + 1)) 0 0 D vwCl [(cI, .int), (cJ, .long)] (mKS adK adV tK) [.ref (ad 0), .int p0] (MW cI cJ ad σ) (MW cI cJ ad σ') (some (.int r)) := by
  refine gMet.of (cc := cX11_productForm) (maxL := 2) (ret := (some .boolean)) (by decide) rfl (Nat.le_of_ble_eq_true rfl) ?_
  intro p e s m args below meth c S hr hlk hnm hK hKS hA hB ls hl
  have hl : lv_has ls 2 [(0, .ref (ad 0)), (1, .int p0)] := hl
  replace S : CallFix p m c cX11_productForm 2 s args (_ :: wsL_law) RX11 := S
  rw [FX11_productForm] at h
  have P38 : ∀ (k10 : Int32 → MS → Option (Int32 × MS)) (hk10 : ∀ (x1 : Int32) (σ1 : MS) (H : Heap) (locs : List Loc) (ls : Array Slot), k10 x1 σ1 = some (r, σ') → gB D vwCl (va_A (MW cI cJ ad σ) s.heap.size) s.heap (MW cI cJ ad σ1) [] H locs → lv_has ls 2 [(0, .ref (ad 0)), (1, .int x1)] → W p l e (rmSC1 (d + 1)) s m args below meth c H locs 0 0 (MQ below (gQ D vwCl (MW cI cJ ad σ) (MW cI cJ ad σ') (some (.int r)) s.heap.size) args s 0 0 (va_A (MW cI cJ ad σ) s.heap.size)) (F0 m 10 ls [])), ∀ (x1 : Int32) (σ1 : MS) (H : Heap) (locs : List Loc) (ls : Array Slot), FX11_productForm_38 rc L k10 x1 σ1 = some (r, σ') → gB D vwCl (va_A (MW cI cJ ad σ) s.heap.size) s.heap (MW cI cJ ad σ1) [] H locs → lv_has ls 2 [(0, .ref (ad 0)), (1, .int x1)] → W p l e (rmSC1 (d + 1)) s m args below meth c H locs 0 0 (MQ below (gQ D vwCl (MW cI cJ ad σ) (MW cI cJ ad σ') (some (.int r)) s.heap.size) args s 0 0 (va_A (MW cI cJ ad σ) s.heap.size)) (F0 m 38 ls []) := by
    intro k10 hk10 x1 σ1 H locs ls h hB hl
    rw [FX11_productForm_38] at h
    refine lv_aload_n S.1 S.2.1 dX11_productForm_38 rfl (lv_at hl 0 rfl) ?_
    obtain ⟨r_5, σ_5, e_5, h⟩ := b2s h
    refine mCallI S hK mKSc hKS hA (kX11_goes mKSc e_5) (cwX11_159 S.2.2.2.2 (rm := rmX11_goes) rfl rfl ⟨by dsimp only [rmSC1, rmX11_goes]; omega, by dsimp only [rmSC1, rmX11_goes]; omega⟩) hB rfl hl.1 rfl (lv_room (Nat.le_of_ble_eq_true rfl)) dX11_productForm_39 ⟨Nat.zero_le _, Nat.zero_le _⟩ (fun H locs hB => ?_)
    refine lv_if_eq (tgt := 53) S.1 S.2.1 dX11_productForm_42 (by decide) (fun c_6 => ?_) (fun c_6 => ?_)
    · replace h := (if_pos c_6).symm.trans h
      refine lv_iconst (v := (0 : Int32)) S.1 S.2.1 dX11_productForm_53 (by decide) ?_
      cases h
      exact gRetZ S.1 S.2.1 hr hlk hB rfl dX11_productForm_54
    · replace h := (if_neg c_6).symm.trans h
      refine lv_aload_n S.1 S.2.1 dX11_productForm_45 rfl (lv_at hl 0 rfl) ?_
      refine lv_iload_n S.1 S.2.1 dX11_productForm_46 rfl (lv_at hl 1 rfl) ?_
      obtain ⟨r_7, σ_7, e_7, h⟩ := b2s h
      refine mCallI S hK mKSc hKS hA (hrc.2.2.2.2.2.2.2 e_7) (cwX11_250 S.2.2.2.2 (rm := (rmSC1 d)) rfl rfl ⟨by dsimp only [rmSC1]; omega, by dsimp only [rmSC1]; omega⟩) hB rfl hl.1 rfl (lv_room (Nat.le_of_ble_eq_true rfl)) dX11_productForm_47 ⟨Nat.zero_le _, Nat.zero_le _⟩ (fun H locs hB => ?_)
      refine lv_if_ne (tgt := 10) S.1 S.2.1 dX11_productForm_50 (by decide) (fun c_8 => ?_) (fun c_8 => ?_)
      · replace h := (if_neg c_8).symm.trans h
        exact hk10 _ _ _ _ _ h hB hl
      · replace h := (if_pos c_8).symm.trans h
        refine lv_iconst (v := (0 : Int32)) S.1 S.2.1 dX11_productForm_53 (by decide) ?_
        cases h
        exact gRetZ S.1 S.2.1 hr hlk hB rfl dX11_productForm_54
  have P10 : ∀  (n : Nat), ∀ (x1 : Int32) (σ1 : MS) (H : Heap) (locs : List Loc) (ls : Array Slot), FX11_productForm_10 rc L n x1 σ1 = some (r, σ') → gB D vwCl (va_A (MW cI cJ ad σ) s.heap.size) s.heap (MW cI cJ ad σ1) [] H locs → lv_has ls 2 [(0, .ref (ad 0)), (1, .int x1)] → W p l e (rmSC1 (d + 1)) s m args below meth c H locs 0 0 (MQ below (gQ D vwCl (MW cI cJ ad σ) (MW cI cJ ad σ') (some (.int r)) s.heap.size) args s 0 0 (va_A (MW cI cJ ad σ) s.heap.size)) (F0 m 10 ls []) := by
    intro n
    induction n with
    | zero => intro x1 σ1 H locs ls h; simp only [FX11_productForm_10] at h; cases h
    | succ n ih =>
      intro x1 σ1 H locs ls h hB hl
      rw [FX11_productForm_10] at h
      refine lv_aload_n S.1 S.2.1 dX11_productForm_10 rfl (lv_at hl 0 rfl) ?_
      refine va_ldcS S.1 S.2.1 S.2.2.2.1 (hKS.2.1 (RX11, 253, "*", 24) (List.mem_of_getElem? (i := 24) rfl)) dX11_productForm_11 ?_
      obtain ⟨r_3, σ_3, e_3, h⟩ := b2s h
      refine mCallI S hK mKSc hKS hA (kX11_sees e_3) (cwX11_155 S.2.2.2.2 (rm := rmX11_sees) rfl rfl ⟨by dsimp only [rmSC1, rmX11_sees]; omega, by dsimp only [rmSC1, rmX11_sees]; omega⟩) hB rfl hl.1 rfl (lv_room (Nat.le_of_ble_eq_true rfl)) dX11_productForm_13 ⟨Nat.zero_le _, Nat.zero_le _⟩ (fun H locs hB => ?_)
      refine lv_if_ne (tgt := 38) S.1 S.2.1 dX11_productForm_16 (by decide) (fun c_4 => ?_) (fun c_4 => ?_)
      · replace h := (if_neg c_4).symm.trans h
        exact P38 (FX11_productForm_10 rc L n) ih _ _ _ _ _ h hB hl
      · replace h := (if_pos c_4).symm.trans h
        refine lv_aload_n S.1 S.2.1 dX11_productForm_19 rfl (lv_at hl 0 rfl) ?_
        refine va_ldcS S.1 S.2.1 S.2.2.2.1 (hKS.2.1 (RX11, 255, "/", 25) (List.mem_of_getElem? (i := 25) rfl)) dX11_productForm_20 ?_
        obtain ⟨r_9, σ_9, e_9, h⟩ := b2s h
        refine mCallI S hK mKSc hKS hA (kX11_sees e_9) (cwX11_155 S.2.2.2.2 (rm := rmX11_sees) rfl rfl ⟨by dsimp only [rmSC1, rmX11_sees]; omega, by dsimp only [rmSC1, rmX11_sees]; omega⟩) hB rfl hl.1 rfl (lv_room (Nat.le_of_ble_eq_true rfl)) dX11_productForm_22 ⟨Nat.zero_le _, Nat.zero_le _⟩ (fun H locs hB => ?_)
        refine lv_if_ne (tgt := 38) S.1 S.2.1 dX11_productForm_25 (by decide) (fun c_10 => ?_) (fun c_10 => ?_)
        · replace h := (if_neg c_10).symm.trans h
          exact P38 (FX11_productForm_10 rc L n) ih _ _ _ _ _ h hB hl
        · replace h := (if_pos c_10).symm.trans h
          refine lv_aload_n S.1 S.2.1 dX11_productForm_28 rfl (lv_at hl 0 rfl) ?_
          refine va_ldcSw S.1 S.2.1 S.2.2.2.1 (hKS.2.1 (RX11, 257, "%", 26) (List.mem_of_getElem? (i := 26) rfl)) dX11_productForm_29 ?_
          obtain ⟨r_11, σ_11, e_11, h⟩ := b2s h
          refine mCallI S hK mKSc hKS hA (kX11_sees e_11) (cwX11_155 S.2.2.2.2 (rm := rmX11_sees) rfl rfl ⟨by dsimp only [rmSC1, rmX11_sees]; omega, by dsimp only [rmSC1, rmX11_sees]; omega⟩) hB rfl hl.1 rfl (lv_room (Nat.le_of_ble_eq_true rfl)) dX11_productForm_32 ⟨Nat.zero_le _, Nat.zero_le _⟩ (fun H locs hB => ?_)
          refine lv_if_eq (tgt := 55) S.1 S.2.1 dX11_productForm_35 (by decide) (fun c_12 => ?_) (fun c_12 => ?_)
          · replace h := (if_pos c_12).symm.trans h
            refine lv_iconst (v := (1 : Int32)) S.1 S.2.1 dX11_productForm_55 (by decide) ?_
            cases h
            exact gRetZ S.1 S.2.1 hr hlk hB rfl dX11_productForm_56
          · replace h := (if_neg c_12).symm.trans h
            exact P38 (FX11_productForm_10 rc L n) ih _ _ _ _ _ h hB hl
  refine lv_aload_n S.1 S.2.1 dX11_productForm_0 rfl (lv_at hl 0 rfl) ?_
  refine lv_iload_n S.1 S.2.1 dX11_productForm_1 rfl (lv_at hl 1 rfl) ?_
  obtain ⟨r_1, σ_1, e_1, h⟩ := b2s h
  refine mCallI S hK mKSc hKS hA (hrc.2.2.2.2.2.2.2 e_1) (cwX11_250 S.2.2.2.2 (rm := (rmSC1 d)) rfl rfl ⟨by dsimp only [rmSC1]; omega, by dsimp only [rmSC1]; omega⟩) hB rfl hl.1 rfl (lv_room (Nat.le_of_ble_eq_true rfl)) dX11_productForm_2 ⟨Nat.zero_le _, Nat.zero_le _⟩ (fun H locs hB => ?_)
  refine lv_if_ne (tgt := 10) S.1 S.2.1 dX11_productForm_5 (by decide) (fun c_2 => ?_) (fun c_2 => ?_)
  · replace h := (if_neg c_2).symm.trans h
    exact P10  L _ _ _ _ _ h hB hl
  · replace h := (if_pos c_2).symm.trans h
    refine lv_iconst (v := (0 : Int32)) S.1 S.2.1 dX11_productForm_8 (by decide) ?_
    cases h
    exact gRetZ S.1 S.2.1 hr hlk hB rfl dX11_productForm_9
def FX11_bracesForm (rc : RC) (L : Nat) (p0 : Int32) (σ : MS) : Option (Int32 × MS) :=
  b2 (FX11_sees L 18 σ) fun r_1 σ_1 =>
  if r_1 = 0 then
    some ((0 : Int32), σ_1)
  else
    if (10 : Int32) ≤ p0 then
      some ((0 : Int32), σ_1)
    else
      b2 (FX11_goes σ_1) fun r_4 σ_4 =>
      if r_4 = 0 then
        some ((0 : Int32), σ_4)
      else
        b2 (rc 0 (p0 + (1 : Int32)) 0 0 σ_4) fun r_6 σ_6 =>
        if r_6 = 0 then
          some ((0 : Int32), σ_6)
        else
          some ((1 : Int32), σ_6)
set_option maxRecDepth 100000 in
set_option maxHeartbeats 4000000 in
theorem kX11_bracesForm {l : Launch} {D : va_G} {cI cJ : ClassId} {ad : Nat → Nat} {adK adV tK : Nat → Nat} {L : Nat} {d : Nat} {rc : RC} (hrc : SC1 l D cI cJ ad adK adV tK d rc) {p0 : Int32} {σ σ' : MS} {r : Int32} (h : FX11_bracesForm rc L p0 σ = some (r, σ')) : gMet l yX11_bracesForm qX11_bracesForm (rmSC1 (d + 1)) 0 0 D vwCl [(cI, .int), (cJ, .long)] (mKS adK adV tK) [.ref (ad 0), .int p0] (MW cI cJ ad σ) (MW cI cJ ad σ') (some (.int r)) := by
  refine gMet.of (cc := cX11_bracesForm) (maxL := 2) (ret := (some .boolean)) (by decide) rfl (Nat.le_of_ble_eq_true rfl) ?_
  intro p e s m args below meth c S hr hlk hnm hK hKS hA hB ls hl
  have hl : lv_has ls 2 [(0, .ref (ad 0)), (1, .int p0)] := hl
  replace S : CallFix p m c cX11_bracesForm 2 s args (_ :: wsL_law) RX11 := S
  rw [FX11_bracesForm] at h
  refine lv_aload_n S.1 S.2.1 dX11_bracesForm_0 rfl (lv_at hl 0 rfl) ?_
  refine va_ldcS S.1 S.2.1 S.2.2.2.1 (hKS.2.1 (RX11, 233, "{", 18) (List.mem_of_getElem? (i := 18) rfl)) dX11_bracesForm_1 ?_
  obtain ⟨r_1, σ_1, e_1, h⟩ := b2s h
  refine mCallI S hK mKSc hKS hA (kX11_sees e_1) (cwX11_155 S.2.2.2.2 (rm := rmX11_sees) rfl rfl ⟨by dsimp only [rmSC1, rmX11_sees]; omega, by dsimp only [rmSC1, rmX11_sees]; omega⟩) hB rfl hl.1 rfl (lv_room (Nat.le_of_ble_eq_true rfl)) dX11_bracesForm_3 ⟨Nat.zero_le _, Nat.zero_le _⟩ (fun H locs hB => ?_)
  refine lv_if_eq (tgt := 36) S.1 S.2.1 dX11_bracesForm_6 (by decide) (fun c_2 => ?_) (fun c_2 => ?_)
  · replace h := (if_pos c_2).symm.trans h
    refine lv_iconst (v := (0 : Int32)) S.1 S.2.1 dX11_bracesForm_36 (by decide) ?_
    cases h
    exact gRetZ S.1 S.2.1 hr hlk hB rfl dX11_bracesForm_37
  · replace h := (if_neg c_2).symm.trans h
    refine lv_iload_n S.1 S.2.1 dX11_bracesForm_9 rfl (lv_at hl 1 rfl) ?_
    refine lv_bipush (v := (10 : Int32)) S.1 S.2.1 dX11_bracesForm_10 (by decide) ?_
    refine lv_icmp_ge (tgt := 36) S.1 S.2.1 dX11_bracesForm_12 (by decide) (fun c_3 => ?_) (fun c_3 => ?_)
    · replace h := (if_pos c_3).symm.trans h
      refine lv_iconst (v := (0 : Int32)) S.1 S.2.1 dX11_bracesForm_36 (by decide) ?_
      cases h
      exact gRetZ S.1 S.2.1 hr hlk hB rfl dX11_bracesForm_37
    · replace h := (if_neg c_3).symm.trans h
      refine lv_aload_n S.1 S.2.1 dX11_bracesForm_15 rfl (lv_at hl 0 rfl) ?_
      obtain ⟨r_4, σ_4, e_4, h⟩ := b2s h
      refine mCallI S hK mKSc hKS hA (kX11_goes mKSc e_4) (cwX11_159 S.2.2.2.2 (rm := rmX11_goes) rfl rfl ⟨by dsimp only [rmSC1, rmX11_goes]; omega, by dsimp only [rmSC1, rmX11_goes]; omega⟩) hB rfl hl.1 rfl (lv_room (Nat.le_of_ble_eq_true rfl)) dX11_bracesForm_16 ⟨Nat.zero_le _, Nat.zero_le _⟩ (fun H locs hB => ?_)
      refine lv_if_eq (tgt := 36) S.1 S.2.1 dX11_bracesForm_19 (by decide) (fun c_5 => ?_) (fun c_5 => ?_)
      · replace h := (if_pos c_5).symm.trans h
        refine lv_iconst (v := (0 : Int32)) S.1 S.2.1 dX11_bracesForm_36 (by decide) ?_
        cases h
        exact gRetZ S.1 S.2.1 hr hlk hB rfl dX11_bracesForm_37
      · replace h := (if_neg c_5).symm.trans h
        refine lv_aload_n S.1 S.2.1 dX11_bracesForm_22 rfl (lv_at hl 0 rfl) ?_
        refine lv_iload_n S.1 S.2.1 dX11_bracesForm_23 rfl (lv_at hl 1 rfl) ?_
        refine lv_iconst (v := (1 : Int32)) S.1 S.2.1 dX11_bracesForm_24 (by decide) ?_
        refine lv_iadd S.1 S.2.1 dX11_bracesForm_25 ?_
        obtain ⟨r_6, σ_6, e_6, h⟩ := b2s h
        refine mCallI S hK mKSc hKS hA (hrc.1 e_6) (cwX11_190 S.2.2.2.2 (rm := (rmSC1 d)) rfl rfl ⟨by dsimp only [rmSC1]; omega, by dsimp only [rmSC1]; omega⟩) hB rfl hl.1 rfl (lv_room (Nat.le_of_ble_eq_true rfl)) dX11_bracesForm_26 ⟨Nat.zero_le _, Nat.zero_le _⟩ (fun H locs hB => ?_)
        refine lv_if_eq (tgt := 36) S.1 S.2.1 dX11_bracesForm_29 (by decide) (fun c_7 => ?_) (fun c_7 => ?_)
        · replace h := (if_pos c_7).symm.trans h
          refine lv_iconst (v := (0 : Int32)) S.1 S.2.1 dX11_bracesForm_36 (by decide) ?_
          cases h
          exact gRetZ S.1 S.2.1 hr hlk hB rfl dX11_bracesForm_37
        · replace h := (if_neg c_7).symm.trans h
          refine lv_iconst (v := (1 : Int32)) S.1 S.2.1 dX11_bracesForm_32 (by decide) ?_
          refine lv_goto (tgt := 37) S.1 S.2.1 dX11_bracesForm_33 (by decide) ?_
          cases h
          exact gRetZ S.1 S.2.1 hr hlk hB rfl dX11_bracesForm_37
def FX11_factorForm_162 (rc : RC) (L : Nat)  (x1 : Int32) (σ1 : MS) : Option (Int32 × MS) :=
    b2 (FX11_goes σ1) fun r_21 σ_21 =>
    if r_21 = 0 then
      some ((0 : Int32), σ_21)
    else
      b2 (rc 6 x1 0 0 σ_21) fun r_23 σ_23 =>
      if r_23 = 0 then
        some ((0 : Int32), σ_23)
      else
        b2 (FX11_takes L 19 σ_23) fun r_25 σ_25 =>
        if r_25 = 0 then
          some ((0 : Int32), σ_25)
        else
          some ((1 : Int32), σ_25)
def FX11_factorForm (rc : RC) (L : Nat) (p0 : Int32) (σ : MS) : Option (Int32 × MS) :=
  if ((σ.1 7) < 0 ∨ 1801 ≤ (σ.1 7).toNatClampNeg) then none else
  if (σ.2.1 4 (σ.1 7).toNatClampNeg) = (2 : Int32) then
    b2 (FX11_goes σ) fun r_3 σ_3 =>
    if (r_3 ≠ 0 ∧ r_3 ≠ 1) then none else
    some (r_3, σ_3)
  else
    b2 (FX11_isName L (σ.1 7) σ) fun r_5 σ_5 =>
    if r_5 = 0 then
      b2 (FX11_sees L 27 σ_5) fun r_9 σ_9 =>
      if r_9 = 0 then
        b2 (FX11_sees L 28 σ_9) fun r_13 σ_13 =>
        if r_13 = 0 then
          b2 (FX11_sees L 29 σ_13) fun r_15 σ_15 =>
          if r_15 = 0 then
            b2 (FX11_which L (σ_15.1 7) 4 σ_15) fun r_17 σ_17 =>
            if r_17 = (-1 : Int32) then
              b2 (FX11_sees L 31 σ_17) fun r_19 σ_19 =>
              if r_19 = 0 then
                b2 (FX11_sees L 32 σ_19) fun r_27 σ_27 =>
                if r_27 = 0 then
                  b2 (FX11_sees L 33 σ_27) fun r_29 σ_29 =>
                  if r_29 = 0 then
                    b2 (FX11_takes L 34 σ_29) fun r_31 σ_31 =>
                    if r_31 = 0 then
                      some ((0 : Int32), σ_31)
                    else
                      b2 (rc 6 p0 0 0 σ_31) fun r_33 σ_33 =>
                      if r_33 = 0 then
                        some ((0 : Int32), σ_33)
                      else
                        b2 (FX11_takes L 19 σ_33) fun r_35 σ_35 =>
                        if r_35 = 0 then
                          some ((0 : Int32), σ_35)
                        else
                          b2 (FX11_takes L 35 σ_35) fun r_37 σ_37 =>
                          if r_37 = 0 then
                            some ((0 : Int32), σ_37)
                          else
                            b2 (rc 7 (p0 + (1 : Int32)) 0 0 σ_37) fun r_39 σ_39 =>
                            if r_39 = 0 then
                              some ((0 : Int32), σ_39)
                            else
                              b2 (FX11_takes L 36 σ_39) fun r_41 σ_41 =>
                              if r_41 = 0 then
                                some ((0 : Int32), σ_41)
                              else
                                b2 (rc 7 (p0 + (1 : Int32)) 0 0 σ_41) fun r_43 σ_43 =>
                                if r_43 = 0 then
                                  some ((0 : Int32), σ_43)
                                else
                                  some ((1 : Int32), σ_43)
                  else
                    b2 (FX11_goes σ_29) fun r_45 σ_45 =>
                    if r_45 = 0 then
                      some ((0 : Int32), σ_45)
                    else
                      b2 (rc 6 p0 0 0 σ_45) fun r_47 σ_47 =>
                      if r_47 = 0 then
                        some ((0 : Int32), σ_47)
                      else
                        b2 (FX11_takes L 19 σ_47) fun r_49 σ_49 =>
                        if r_49 = 0 then
                          some ((0 : Int32), σ_49)
                        else
                          b2 (rc 7 (p0 + (1 : Int32)) 0 0 σ_49) fun r_51 σ_51 =>
                          if r_51 = 0 then
                            some ((0 : Int32), σ_51)
                          else
                            some ((1 : Int32), σ_51)
                else
                  FX11_factorForm_162 rc L p0 σ_27
              else
                FX11_factorForm_162 rc L p0 σ_19
            else
              if (10 : Int32) ≤ p0 then
                some ((0 : Int32), σ_17)
              else
                b2 (FX11_goes σ_17) fun r_54 σ_54 =>
                if r_54 = 0 then
                  some ((0 : Int32), σ_54)
                else
                  b2 (rc 7 (p0 + (1 : Int32)) 0 0 σ_54) fun r_56 σ_56 =>
                  if r_56 = 0 then
                    some ((0 : Int32), σ_56)
                  else
                    some ((1 : Int32), σ_56)
          else
            if (10 : Int32) ≤ p0 then
              some ((0 : Int32), σ_15)
            else
              b2 (FX11_goes σ_15) fun r_59 σ_59 =>
              if r_59 = 0 then
                some ((0 : Int32), σ_59)
              else
                b2 (rc 4 (p0 + (1 : Int32)) 0 0 σ_59) fun r_61 σ_61 =>
                if r_61 = 0 then
                  some ((0 : Int32), σ_61)
                else
                  b2 (FX11_takes L 30 σ_61) fun r_63 σ_63 =>
                  if r_63 = 0 then
                    some ((0 : Int32), σ_63)
                  else
                    some ((1 : Int32), σ_63)
        else
          b2 (FX11_goes σ_13) fun r_65 σ_65 =>
          if (r_65 ≠ 0 ∧ r_65 ≠ 1) then none else
          some (r_65, σ_65)
      else
        b2 (FX11_goes σ_9) fun r_11 σ_11 =>
        if (r_11 ≠ 0 ∧ r_11 ≠ 1) then none else
        some (r_11, σ_11)
    else
      b2 (FX11_goes σ_5) fun r_7 σ_7 =>
      if (r_7 ≠ 0 ∧ r_7 ≠ 1) then none else
      some (r_7, σ_7)
set_option maxRecDepth 100000 in
set_option maxHeartbeats 4000000 in
theorem kX11_factorForm {l : Launch} {D : va_G} {cI cJ : ClassId} {ad : Nat → Nat} {adK adV tK : Nat → Nat} {L : Nat} {d : Nat} {rc : RC} (hrc : SC1 l D cI cJ ad adK adV tK d rc) {p0 : Int32} {σ σ' : MS} {r : Int32} (h : FX11_factorForm rc L p0 σ = some (r, σ')) : gMet l yX11_factorForm qX11_factorForm (rmSC1 (d + 1)) 0 0 D vwCl [(cI, .int), (cJ, .long)] (mKS adK adV tK) [.ref (ad 0), .int p0] (MW cI cJ ad σ) (MW cI cJ ad σ') (some (.int r)) := by
  refine gMet.of (cc := cX11_factorForm) (maxL := 2) (ret := (some .boolean)) (by decide) rfl (Nat.le_of_ble_eq_true rfl) ?_
  intro p e s m args below meth c S hr hlk hnm hK hKS hA hB ls hl
  have hl : lv_has ls 2 [(0, .ref (ad 0)), (1, .int p0)] := hl
  replace S : CallFix p m c cX11_factorForm 2 s args (_ :: wsL_law) RX11 := S
  rw [FX11_factorForm] at h
  have P162 : ∀ (x1 : Int32) (σ1 : MS) (H : Heap) (locs : List Loc) (ls : Array Slot), FX11_factorForm_162 rc L x1 σ1 = some (r, σ') → gB D vwCl (va_A (MW cI cJ ad σ) s.heap.size) s.heap (MW cI cJ ad σ1) [] H locs → lv_has ls 2 [(0, .ref (ad 0)), (1, .int x1)] → W p l e (rmSC1 (d + 1)) s m args below meth c H locs 0 0 (MQ below (gQ D vwCl (MW cI cJ ad σ) (MW cI cJ ad σ') (some (.int r)) s.heap.size) args s 0 0 (va_A (MW cI cJ ad σ) s.heap.size)) (F0 m 162 ls []) := by
    intro  x1 σ1 H locs ls h hB hl
    rw [FX11_factorForm_162] at h
    refine lv_aload_n S.1 S.2.1 dX11_factorForm_162 rfl (lv_at hl 0 rfl) ?_
    obtain ⟨r_21, σ_21, e_21, h⟩ := b2s h
    refine mCallI S hK mKSc hKS hA (kX11_goes mKSc e_21) (cwX11_159 S.2.2.2.2 (rm := rmX11_goes) rfl rfl ⟨by dsimp only [rmSC1, rmX11_goes]; omega, by dsimp only [rmSC1, rmX11_goes]; omega⟩) hB rfl hl.1 rfl (lv_room (Nat.le_of_ble_eq_true rfl)) dX11_factorForm_163 ⟨Nat.zero_le _, Nat.zero_le _⟩ (fun H locs hB => ?_)
    refine lv_if_eq (tgt := 190) S.1 S.2.1 dX11_factorForm_166 (by decide) (fun c_22 => ?_) (fun c_22 => ?_)
    · replace h := (if_pos c_22).symm.trans h
      refine lv_iconst (v := (0 : Int32)) S.1 S.2.1 dX11_factorForm_190 (by decide) ?_
      cases h
      exact gRetZ S.1 S.2.1 hr hlk hB rfl dX11_factorForm_191
    · replace h := (if_neg c_22).symm.trans h
      refine lv_aload_n S.1 S.2.1 dX11_factorForm_169 rfl (lv_at hl 0 rfl) ?_
      refine lv_iload_n S.1 S.2.1 dX11_factorForm_170 rfl (lv_at hl 1 rfl) ?_
      obtain ⟨r_23, σ_23, e_23, h⟩ := b2s h
      refine mCallI S hK mKSc hKS hA (hrc.2.2.2.2.2.2.1 e_23) (cwX11_274 S.2.2.2.2 (rm := (rmSC1 d)) rfl rfl ⟨by dsimp only [rmSC1]; omega, by dsimp only [rmSC1]; omega⟩) hB rfl hl.1 rfl (lv_room (Nat.le_of_ble_eq_true rfl)) dX11_factorForm_171 ⟨Nat.zero_le _, Nat.zero_le _⟩ (fun H locs hB => ?_)
      refine lv_if_eq (tgt := 190) S.1 S.2.1 dX11_factorForm_174 (by decide) (fun c_24 => ?_) (fun c_24 => ?_)
      · replace h := (if_pos c_24).symm.trans h
        refine lv_iconst (v := (0 : Int32)) S.1 S.2.1 dX11_factorForm_190 (by decide) ?_
        cases h
        exact gRetZ S.1 S.2.1 hr hlk hB rfl dX11_factorForm_191
      · replace h := (if_neg c_24).symm.trans h
        refine lv_aload_n S.1 S.2.1 dX11_factorForm_177 rfl (lv_at hl 0 rfl) ?_
        refine va_ldcS S.1 S.2.1 S.2.2.2.1 (hKS.2.1 (RX11, 235, "}", 19) (List.mem_of_getElem? (i := 19) rfl)) dX11_factorForm_178 ?_
        obtain ⟨r_25, σ_25, e_25, h⟩ := b2s h
        refine mCallI S hK mKSc hKS hA (kX11_takes e_25) (cwX11_171 S.2.2.2.2 (rm := rmX11_takes) rfl rfl ⟨by dsimp only [rmSC1, rmX11_takes]; omega, by dsimp only [rmSC1, rmX11_takes]; omega⟩) hB rfl hl.1 rfl (lv_room (Nat.le_of_ble_eq_true rfl)) dX11_factorForm_180 ⟨Nat.zero_le _, Nat.zero_le _⟩ (fun H locs hB => ?_)
        refine lv_if_eq (tgt := 190) S.1 S.2.1 dX11_factorForm_183 (by decide) (fun c_26 => ?_) (fun c_26 => ?_)
        · replace h := (if_pos c_26).symm.trans h
          refine lv_iconst (v := (0 : Int32)) S.1 S.2.1 dX11_factorForm_190 (by decide) ?_
          cases h
          exact gRetZ S.1 S.2.1 hr hlk hB rfl dX11_factorForm_191
        · replace h := (if_neg c_26).symm.trans h
          refine lv_iconst (v := (1 : Int32)) S.1 S.2.1 dX11_factorForm_186 (by decide) ?_
          refine lv_goto (tgt := 191) S.1 S.2.1 dX11_factorForm_187 (by decide) ?_
          cases h
          exact gRetZ S.1 S.2.1 hr hlk hB rfl dX11_factorForm_191
  refine lv_aload_n S.1 S.2.1 dX11_factorForm_0 rfl (lv_at hl 0 rfl) ?_
  refine mg_kinds S hK hB wf_X11_17 dX11_factorForm_1 ?_
  refine lv_aload_n S.1 S.2.1 dX11_factorForm_4 rfl (lv_at hl 0 rfl) ?_
  refine mg_at S hK hB wf_X11_152 rfl dX11_factorForm_5 ?_
  obtain ⟨b_1, h⟩ := gd h
  refine ml_kinds (v := (σ.2.1 4 (σ.1 7).toNatClampNeg)) S hK hB b_1 rfl dX11_factorForm_8 ?_
  refine lv_iconst (v := (2 : Int32)) S.1 S.2.1 dX11_factorForm_9 (by decide) ?_
  refine lv_icmp_eq (tgt := 44) S.1 S.2.1 dX11_factorForm_10 (by decide) (fun c_2 => ?_) (fun c_2 => ?_)
  · replace h := (if_pos c_2).symm.trans h
    refine lv_aload_n S.1 S.2.1 dX11_factorForm_44 rfl (lv_at hl 0 rfl) ?_
    obtain ⟨r_3, σ_3, e_3, h⟩ := b2s h
    refine mCallI S hK mKSc hKS hA (kX11_goes mKSc e_3) (cwX11_159 S.2.2.2.2 (rm := rmX11_goes) rfl rfl ⟨by dsimp only [rmSC1, rmX11_goes]; omega, by dsimp only [rmSC1, rmX11_goes]; omega⟩) hB rfl hl.1 rfl (lv_room (Nat.le_of_ble_eq_true rfl)) dX11_factorForm_45 ⟨Nat.zero_le _, Nat.zero_le _⟩ (fun H locs hB => ?_)
    obtain ⟨z_4, h⟩ := gd h
    cases h
    exact gRetZ S.1 S.2.1 hr hlk hB (nzB z_4) dX11_factorForm_48
  · replace h := (if_neg c_2).symm.trans h
    refine lv_aload_n S.1 S.2.1 dX11_factorForm_13 rfl (lv_at hl 0 rfl) ?_
    refine lv_aload_n S.1 S.2.1 dX11_factorForm_14 rfl (lv_at hl 0 rfl) ?_
    refine mg_at S hK hB wf_X11_152 rfl dX11_factorForm_15 ?_
    obtain ⟨r_5, σ_5, e_5, h⟩ := b2s h
    refine mCallI S hK mKSc hKS hA (kX11_isName e_5) (cwX11_163 S.2.2.2.2 (rm := rmX11_isName) rfl rfl ⟨by dsimp only [rmSC1, rmX11_isName]; omega, by dsimp only [rmSC1, rmX11_isName]; omega⟩) hB rfl hl.1 rfl (lv_room (Nat.le_of_ble_eq_true rfl)) dX11_factorForm_18 ⟨Nat.zero_le _, Nat.zero_le _⟩ (fun H locs hB => ?_)
    refine lv_if_ne (tgt := 44) S.1 S.2.1 dX11_factorForm_21 (by decide) (fun c_6 => ?_) (fun c_6 => ?_)
    · replace h := (if_neg c_6).symm.trans h
      refine lv_aload_n S.1 S.2.1 dX11_factorForm_44 rfl (lv_at hl 0 rfl) ?_
      obtain ⟨r_7, σ_7, e_7, h⟩ := b2s h
      refine mCallI S hK mKSc hKS hA (kX11_goes mKSc e_7) (cwX11_159 S.2.2.2.2 (rm := rmX11_goes) rfl rfl ⟨by dsimp only [rmSC1, rmX11_goes]; omega, by dsimp only [rmSC1, rmX11_goes]; omega⟩) hB rfl hl.1 rfl (lv_room (Nat.le_of_ble_eq_true rfl)) dX11_factorForm_45 ⟨Nat.zero_le _, Nat.zero_le _⟩ (fun H locs hB => ?_)
      obtain ⟨z_8, h⟩ := gd h
      cases h
      exact gRetZ S.1 S.2.1 hr hlk hB (nzB z_8) dX11_factorForm_48
    · replace h := (if_pos c_6).symm.trans h
      refine lv_aload_n S.1 S.2.1 dX11_factorForm_24 rfl (lv_at hl 0 rfl) ?_
      refine va_ldcSw S.1 S.2.1 S.2.2.2.1 (hKS.2.1 (RX11, 259, "time", 27) (List.mem_of_getElem? (i := 27) rfl)) dX11_factorForm_25 ?_
      obtain ⟨r_9, σ_9, e_9, h⟩ := b2s h
      refine mCallI S hK mKSc hKS hA (kX11_sees e_9) (cwX11_155 S.2.2.2.2 (rm := rmX11_sees) rfl rfl ⟨by dsimp only [rmSC1, rmX11_sees]; omega, by dsimp only [rmSC1, rmX11_sees]; omega⟩) hB rfl hl.1 rfl (lv_room (Nat.le_of_ble_eq_true rfl)) dX11_factorForm_28 ⟨Nat.zero_le _, Nat.zero_le _⟩ (fun H locs hB => ?_)
      refine lv_if_ne (tgt := 44) S.1 S.2.1 dX11_factorForm_31 (by decide) (fun c_10 => ?_) (fun c_10 => ?_)
      · replace h := (if_neg c_10).symm.trans h
        refine lv_aload_n S.1 S.2.1 dX11_factorForm_44 rfl (lv_at hl 0 rfl) ?_
        obtain ⟨r_11, σ_11, e_11, h⟩ := b2s h
        refine mCallI S hK mKSc hKS hA (kX11_goes mKSc e_11) (cwX11_159 S.2.2.2.2 (rm := rmX11_goes) rfl rfl ⟨by dsimp only [rmSC1, rmX11_goes]; omega, by dsimp only [rmSC1, rmX11_goes]; omega⟩) hB rfl hl.1 rfl (lv_room (Nat.le_of_ble_eq_true rfl)) dX11_factorForm_45 ⟨Nat.zero_le _, Nat.zero_le _⟩ (fun H locs hB => ?_)
        obtain ⟨z_12, h⟩ := gd h
        cases h
        exact gRetZ S.1 S.2.1 hr hlk hB (nzB z_12) dX11_factorForm_48
      · replace h := (if_pos c_10).symm.trans h
        refine lv_aload_n S.1 S.2.1 dX11_factorForm_34 rfl (lv_at hl 0 rfl) ?_
        refine va_ldcSw S.1 S.2.1 S.2.2.2.1 (hKS.2.1 (RX11, 261, "step", 28) (List.mem_of_getElem? (i := 28) rfl)) dX11_factorForm_35 ?_
        obtain ⟨r_13, σ_13, e_13, h⟩ := b2s h
        refine mCallI S hK mKSc hKS hA (kX11_sees e_13) (cwX11_155 S.2.2.2.2 (rm := rmX11_sees) rfl rfl ⟨by dsimp only [rmSC1, rmX11_sees]; omega, by dsimp only [rmSC1, rmX11_sees]; omega⟩) hB rfl hl.1 rfl (lv_room (Nat.le_of_ble_eq_true rfl)) dX11_factorForm_38 ⟨Nat.zero_le _, Nat.zero_le _⟩ (fun H locs hB => ?_)
        refine lv_if_eq (tgt := 49) S.1 S.2.1 dX11_factorForm_41 (by decide) (fun c_14 => ?_) (fun c_14 => ?_)
        · replace h := (if_pos c_14).symm.trans h
          refine lv_aload_n S.1 S.2.1 dX11_factorForm_49 rfl (lv_at hl 0 rfl) ?_
          refine va_ldcSw S.1 S.2.1 S.2.2.2.1 (hKS.2.1 (RX11, 263, "(", 29) (List.mem_of_getElem? (i := 29) rfl)) dX11_factorForm_50 ?_
          obtain ⟨r_15, σ_15, e_15, h⟩ := b2s h
          refine mCallI S hK mKSc hKS hA (kX11_sees e_15) (cwX11_155 S.2.2.2.2 (rm := rmX11_sees) rfl rfl ⟨by dsimp only [rmSC1, rmX11_sees]; omega, by dsimp only [rmSC1, rmX11_sees]; omega⟩) hB rfl hl.1 rfl (lv_room (Nat.le_of_ble_eq_true rfl)) dX11_factorForm_53 ⟨Nat.zero_le _, Nat.zero_le _⟩ (fun H locs hB => ?_)
          refine lv_if_eq (tgt := 98) S.1 S.2.1 dX11_factorForm_56 (by decide) (fun c_16 => ?_) (fun c_16 => ?_)
          · replace h := (if_pos c_16).symm.trans h
            refine lv_aload_n S.1 S.2.1 dX11_factorForm_98 rfl (lv_at hl 0 rfl) ?_
            refine lv_aload_n S.1 S.2.1 dX11_factorForm_99 rfl (lv_at hl 0 rfl) ?_
            refine mg_at S hK hB wf_X11_152 rfl dX11_factorForm_100 ?_
            refine va_gets S.1 S.2.1 (hKS.2.2.2.2 4 (by decide)).1 hB.2.2 S.2.2.2.1 (S.2.2.2.2 _ (List.mem_cons_of_mem _ wf_X11_267)) (fun _ h => h) dX11_factorForm_103 ?_
            obtain ⟨r_17, σ_17, e_17, h⟩ := b2s h
            refine mCallI S hK mKSc hKS hA (gMet.weak (kX11_which (xt := (tK 4)) e_17) (fun _ _ q => ⟨q, (q.2.2.2.2 4 (by decide)).2⟩)) (cwX11_146 S.2.2.2.2 (rm := rmX11_which) rfl rfl ⟨by dsimp only [rmSC1, rmX11_which]; omega, by dsimp only [rmSC1, rmX11_which]; omega⟩) hB rfl hl.1 rfl (lv_room (Nat.le_of_ble_eq_true rfl)) dX11_factorForm_106 ⟨Nat.zero_le _, Nat.zero_le _⟩ (fun H locs hB => ?_)
            refine lv_iconst (v := (-1 : Int32)) S.1 S.2.1 dX11_factorForm_109 (by decide) ?_
            refine lv_icmp_eq (tgt := 142) S.1 S.2.1 dX11_factorForm_110 (by decide) (fun c_18 => ?_) (fun c_18 => ?_)
            · replace h := (if_pos c_18).symm.trans h
              refine lv_aload_n S.1 S.2.1 dX11_factorForm_142 rfl (lv_at hl 0 rfl) ?_
              refine va_ldcSw S.1 S.2.1 S.2.2.2.1 (hKS.2.1 (RX11, 270, "count", 31) (List.mem_of_getElem? (i := 31) rfl)) dX11_factorForm_143 ?_
              obtain ⟨r_19, σ_19, e_19, h⟩ := b2s h
              refine mCallI S hK mKSc hKS hA (kX11_sees e_19) (cwX11_155 S.2.2.2.2 (rm := rmX11_sees) rfl rfl ⟨by dsimp only [rmSC1, rmX11_sees]; omega, by dsimp only [rmSC1, rmX11_sees]; omega⟩) hB rfl hl.1 rfl (lv_room (Nat.le_of_ble_eq_true rfl)) dX11_factorForm_146 ⟨Nat.zero_le _, Nat.zero_le _⟩ (fun H locs hB => ?_)
              refine lv_if_ne (tgt := 162) S.1 S.2.1 dX11_factorForm_149 (by decide) (fun c_20 => ?_) (fun c_20 => ?_)
              · replace h := (if_neg c_20).symm.trans h
                exact P162  _ _ _ _ _ h hB hl
              · replace h := (if_pos c_20).symm.trans h
                refine lv_aload_n S.1 S.2.1 dX11_factorForm_152 rfl (lv_at hl 0 rfl) ?_
                refine va_ldcSw S.1 S.2.1 S.2.2.2.1 (hKS.2.1 (RX11, 272, "last", 32) (List.mem_of_getElem? (i := 32) rfl)) dX11_factorForm_153 ?_
                obtain ⟨r_27, σ_27, e_27, h⟩ := b2s h
                refine mCallI S hK mKSc hKS hA (kX11_sees e_27) (cwX11_155 S.2.2.2.2 (rm := rmX11_sees) rfl rfl ⟨by dsimp only [rmSC1, rmX11_sees]; omega, by dsimp only [rmSC1, rmX11_sees]; omega⟩) hB rfl hl.1 rfl (lv_room (Nat.le_of_ble_eq_true rfl)) dX11_factorForm_156 ⟨Nat.zero_le _, Nat.zero_le _⟩ (fun H locs hB => ?_)
                refine lv_if_eq (tgt := 192) S.1 S.2.1 dX11_factorForm_159 (by decide) (fun c_28 => ?_) (fun c_28 => ?_)
                · replace h := (if_pos c_28).symm.trans h
                  refine lv_aload_n S.1 S.2.1 dX11_factorForm_192 rfl (lv_at hl 0 rfl) ?_
                  refine va_ldcSw S.1 S.2.1 S.2.2.2.1 (hKS.2.1 (RX11, 277, "at", 33) (List.mem_of_getElem? (i := 33) rfl)) dX11_factorForm_193 ?_
                  obtain ⟨r_29, σ_29, e_29, h⟩ := b2s h
                  refine mCallI S hK mKSc hKS hA (kX11_sees e_29) (cwX11_155 S.2.2.2.2 (rm := rmX11_sees) rfl rfl ⟨by dsimp only [rmSC1, rmX11_sees]; omega, by dsimp only [rmSC1, rmX11_sees]; omega⟩) hB rfl hl.1 rfl (lv_room (Nat.le_of_ble_eq_true rfl)) dX11_factorForm_196 ⟨Nat.zero_le _, Nat.zero_le _⟩ (fun H locs hB => ?_)
                  refine lv_if_eq (tgt := 242) S.1 S.2.1 dX11_factorForm_199 (by decide) (fun c_30 => ?_) (fun c_30 => ?_)
                  · replace h := (if_pos c_30).symm.trans h
                    refine lv_aload_n S.1 S.2.1 dX11_factorForm_242 rfl (lv_at hl 0 rfl) ?_
                    refine va_ldcSw S.1 S.2.1 S.2.2.2.1 (hKS.2.1 (RX11, 278, "if", 34) (List.mem_of_getElem? (i := 34) rfl)) dX11_factorForm_243 ?_
                    obtain ⟨r_31, σ_31, e_31, h⟩ := b2s h
                    refine mCallI S hK mKSc hKS hA (kX11_takes e_31) (cwX11_171 S.2.2.2.2 (rm := rmX11_takes) rfl rfl ⟨by dsimp only [rmSC1, rmX11_takes]; omega, by dsimp only [rmSC1, rmX11_takes]; omega⟩) hB rfl hl.1 rfl (lv_room (Nat.le_of_ble_eq_true rfl)) dX11_factorForm_246 ⟨Nat.zero_le _, Nat.zero_le _⟩ (fun H locs hB => ?_)
                    refine lv_if_eq (tgt := 313) S.1 S.2.1 dX11_factorForm_249 (by decide) (fun c_32 => ?_) (fun c_32 => ?_)
                    · replace h := (if_pos c_32).symm.trans h
                      refine lv_iconst (v := (0 : Int32)) S.1 S.2.1 dX11_factorForm_313 (by decide) ?_
                      cases h
                      exact gRetZ S.1 S.2.1 hr hlk hB rfl dX11_factorForm_314
                    · replace h := (if_neg c_32).symm.trans h
                      refine lv_aload_n S.1 S.2.1 dX11_factorForm_252 rfl (lv_at hl 0 rfl) ?_
                      refine lv_iload_n S.1 S.2.1 dX11_factorForm_253 rfl (lv_at hl 1 rfl) ?_
                      obtain ⟨r_33, σ_33, e_33, h⟩ := b2s h
                      refine mCallI S hK mKSc hKS hA (hrc.2.2.2.2.2.2.1 e_33) (cwX11_274 S.2.2.2.2 (rm := (rmSC1 d)) rfl rfl ⟨by dsimp only [rmSC1]; omega, by dsimp only [rmSC1]; omega⟩) hB rfl hl.1 rfl (lv_room (Nat.le_of_ble_eq_true rfl)) dX11_factorForm_254 ⟨Nat.zero_le _, Nat.zero_le _⟩ (fun H locs hB => ?_)
                      refine lv_if_eq (tgt := 313) S.1 S.2.1 dX11_factorForm_257 (by decide) (fun c_34 => ?_) (fun c_34 => ?_)
                      · replace h := (if_pos c_34).symm.trans h
                        refine lv_iconst (v := (0 : Int32)) S.1 S.2.1 dX11_factorForm_313 (by decide) ?_
                        cases h
                        exact gRetZ S.1 S.2.1 hr hlk hB rfl dX11_factorForm_314
                      · replace h := (if_neg c_34).symm.trans h
                        refine lv_aload_n S.1 S.2.1 dX11_factorForm_260 rfl (lv_at hl 0 rfl) ?_
                        refine va_ldcS S.1 S.2.1 S.2.2.2.1 (hKS.2.1 (RX11, 235, "}", 19) (List.mem_of_getElem? (i := 19) rfl)) dX11_factorForm_261 ?_
                        obtain ⟨r_35, σ_35, e_35, h⟩ := b2s h
                        refine mCallI S hK mKSc hKS hA (kX11_takes e_35) (cwX11_171 S.2.2.2.2 (rm := rmX11_takes) rfl rfl ⟨by dsimp only [rmSC1, rmX11_takes]; omega, by dsimp only [rmSC1, rmX11_takes]; omega⟩) hB rfl hl.1 rfl (lv_room (Nat.le_of_ble_eq_true rfl)) dX11_factorForm_263 ⟨Nat.zero_le _, Nat.zero_le _⟩ (fun H locs hB => ?_)
                        refine lv_if_eq (tgt := 313) S.1 S.2.1 dX11_factorForm_266 (by decide) (fun c_36 => ?_) (fun c_36 => ?_)
                        · replace h := (if_pos c_36).symm.trans h
                          refine lv_iconst (v := (0 : Int32)) S.1 S.2.1 dX11_factorForm_313 (by decide) ?_
                          cases h
                          exact gRetZ S.1 S.2.1 hr hlk hB rfl dX11_factorForm_314
                        · replace h := (if_neg c_36).symm.trans h
                          refine lv_aload_n S.1 S.2.1 dX11_factorForm_269 rfl (lv_at hl 0 rfl) ?_
                          refine va_ldcSw S.1 S.2.1 S.2.2.2.1 (hKS.2.1 (RX11, 280, "then", 35) (List.mem_of_getElem? (i := 35) rfl)) dX11_factorForm_270 ?_
                          obtain ⟨r_37, σ_37, e_37, h⟩ := b2s h
                          refine mCallI S hK mKSc hKS hA (kX11_takes e_37) (cwX11_171 S.2.2.2.2 (rm := rmX11_takes) rfl rfl ⟨by dsimp only [rmSC1, rmX11_takes]; omega, by dsimp only [rmSC1, rmX11_takes]; omega⟩) hB rfl hl.1 rfl (lv_room (Nat.le_of_ble_eq_true rfl)) dX11_factorForm_273 ⟨Nat.zero_le _, Nat.zero_le _⟩ (fun H locs hB => ?_)
                          refine lv_if_eq (tgt := 313) S.1 S.2.1 dX11_factorForm_276 (by decide) (fun c_38 => ?_) (fun c_38 => ?_)
                          · replace h := (if_pos c_38).symm.trans h
                            refine lv_iconst (v := (0 : Int32)) S.1 S.2.1 dX11_factorForm_313 (by decide) ?_
                            cases h
                            exact gRetZ S.1 S.2.1 hr hlk hB rfl dX11_factorForm_314
                          · replace h := (if_neg c_38).symm.trans h
                            refine lv_aload_n S.1 S.2.1 dX11_factorForm_279 rfl (lv_at hl 0 rfl) ?_
                            refine lv_iload_n S.1 S.2.1 dX11_factorForm_280 rfl (lv_at hl 1 rfl) ?_
                            refine lv_iconst (v := (1 : Int32)) S.1 S.2.1 dX11_factorForm_281 (by decide) ?_
                            refine lv_iadd S.1 S.2.1 dX11_factorForm_282 ?_
                            obtain ⟨r_39, σ_39, e_39, h⟩ := b2s h
                            refine mCallI S hK mKSc hKS hA (hrc.2.2.2.2.2.2.2 e_39) (cwX11_250 S.2.2.2.2 (rm := (rmSC1 d)) rfl rfl ⟨by dsimp only [rmSC1]; omega, by dsimp only [rmSC1]; omega⟩) hB rfl hl.1 rfl (lv_room (Nat.le_of_ble_eq_true rfl)) dX11_factorForm_283 ⟨Nat.zero_le _, Nat.zero_le _⟩ (fun H locs hB => ?_)
                            refine lv_if_eq (tgt := 313) S.1 S.2.1 dX11_factorForm_286 (by decide) (fun c_40 => ?_) (fun c_40 => ?_)
                            · replace h := (if_pos c_40).symm.trans h
                              refine lv_iconst (v := (0 : Int32)) S.1 S.2.1 dX11_factorForm_313 (by decide) ?_
                              cases h
                              exact gRetZ S.1 S.2.1 hr hlk hB rfl dX11_factorForm_314
                            · replace h := (if_neg c_40).symm.trans h
                              refine lv_aload_n S.1 S.2.1 dX11_factorForm_289 rfl (lv_at hl 0 rfl) ?_
                              refine va_ldcSw S.1 S.2.1 S.2.2.2.1 (hKS.2.1 (RX11, 282, "else", 36) (List.mem_of_getElem? (i := 36) rfl)) dX11_factorForm_290 ?_
                              obtain ⟨r_41, σ_41, e_41, h⟩ := b2s h
                              refine mCallI S hK mKSc hKS hA (kX11_takes e_41) (cwX11_171 S.2.2.2.2 (rm := rmX11_takes) rfl rfl ⟨by dsimp only [rmSC1, rmX11_takes]; omega, by dsimp only [rmSC1, rmX11_takes]; omega⟩) hB rfl hl.1 rfl (lv_room (Nat.le_of_ble_eq_true rfl)) dX11_factorForm_293 ⟨Nat.zero_le _, Nat.zero_le _⟩ (fun H locs hB => ?_)
                              refine lv_if_eq (tgt := 313) S.1 S.2.1 dX11_factorForm_296 (by decide) (fun c_42 => ?_) (fun c_42 => ?_)
                              · replace h := (if_pos c_42).symm.trans h
                                refine lv_iconst (v := (0 : Int32)) S.1 S.2.1 dX11_factorForm_313 (by decide) ?_
                                cases h
                                exact gRetZ S.1 S.2.1 hr hlk hB rfl dX11_factorForm_314
                              · replace h := (if_neg c_42).symm.trans h
                                refine lv_aload_n S.1 S.2.1 dX11_factorForm_299 rfl (lv_at hl 0 rfl) ?_
                                refine lv_iload_n S.1 S.2.1 dX11_factorForm_300 rfl (lv_at hl 1 rfl) ?_
                                refine lv_iconst (v := (1 : Int32)) S.1 S.2.1 dX11_factorForm_301 (by decide) ?_
                                refine lv_iadd S.1 S.2.1 dX11_factorForm_302 ?_
                                obtain ⟨r_43, σ_43, e_43, h⟩ := b2s h
                                refine mCallI S hK mKSc hKS hA (hrc.2.2.2.2.2.2.2 e_43) (cwX11_250 S.2.2.2.2 (rm := (rmSC1 d)) rfl rfl ⟨by dsimp only [rmSC1]; omega, by dsimp only [rmSC1]; omega⟩) hB rfl hl.1 rfl (lv_room (Nat.le_of_ble_eq_true rfl)) dX11_factorForm_303 ⟨Nat.zero_le _, Nat.zero_le _⟩ (fun H locs hB => ?_)
                                refine lv_if_eq (tgt := 313) S.1 S.2.1 dX11_factorForm_306 (by decide) (fun c_44 => ?_) (fun c_44 => ?_)
                                · replace h := (if_pos c_44).symm.trans h
                                  refine lv_iconst (v := (0 : Int32)) S.1 S.2.1 dX11_factorForm_313 (by decide) ?_
                                  cases h
                                  exact gRetZ S.1 S.2.1 hr hlk hB rfl dX11_factorForm_314
                                · replace h := (if_neg c_44).symm.trans h
                                  refine lv_iconst (v := (1 : Int32)) S.1 S.2.1 dX11_factorForm_309 (by decide) ?_
                                  refine lv_goto (tgt := 314) S.1 S.2.1 dX11_factorForm_310 (by decide) ?_
                                  cases h
                                  exact gRetZ S.1 S.2.1 hr hlk hB rfl dX11_factorForm_314
                  · replace h := (if_neg c_30).symm.trans h
                    refine lv_aload_n S.1 S.2.1 dX11_factorForm_202 rfl (lv_at hl 0 rfl) ?_
                    obtain ⟨r_45, σ_45, e_45, h⟩ := b2s h
                    refine mCallI S hK mKSc hKS hA (kX11_goes mKSc e_45) (cwX11_159 S.2.2.2.2 (rm := rmX11_goes) rfl rfl ⟨by dsimp only [rmSC1, rmX11_goes]; omega, by dsimp only [rmSC1, rmX11_goes]; omega⟩) hB rfl hl.1 rfl (lv_room (Nat.le_of_ble_eq_true rfl)) dX11_factorForm_203 ⟨Nat.zero_le _, Nat.zero_le _⟩ (fun H locs hB => ?_)
                    refine lv_if_eq (tgt := 240) S.1 S.2.1 dX11_factorForm_206 (by decide) (fun c_46 => ?_) (fun c_46 => ?_)
                    · replace h := (if_pos c_46).symm.trans h
                      refine lv_iconst (v := (0 : Int32)) S.1 S.2.1 dX11_factorForm_240 (by decide) ?_
                      cases h
                      exact gRetZ S.1 S.2.1 hr hlk hB rfl dX11_factorForm_241
                    · replace h := (if_neg c_46).symm.trans h
                      refine lv_aload_n S.1 S.2.1 dX11_factorForm_209 rfl (lv_at hl 0 rfl) ?_
                      refine lv_iload_n S.1 S.2.1 dX11_factorForm_210 rfl (lv_at hl 1 rfl) ?_
                      obtain ⟨r_47, σ_47, e_47, h⟩ := b2s h
                      refine mCallI S hK mKSc hKS hA (hrc.2.2.2.2.2.2.1 e_47) (cwX11_274 S.2.2.2.2 (rm := (rmSC1 d)) rfl rfl ⟨by dsimp only [rmSC1]; omega, by dsimp only [rmSC1]; omega⟩) hB rfl hl.1 rfl (lv_room (Nat.le_of_ble_eq_true rfl)) dX11_factorForm_211 ⟨Nat.zero_le _, Nat.zero_le _⟩ (fun H locs hB => ?_)
                      refine lv_if_eq (tgt := 240) S.1 S.2.1 dX11_factorForm_214 (by decide) (fun c_48 => ?_) (fun c_48 => ?_)
                      · replace h := (if_pos c_48).symm.trans h
                        refine lv_iconst (v := (0 : Int32)) S.1 S.2.1 dX11_factorForm_240 (by decide) ?_
                        cases h
                        exact gRetZ S.1 S.2.1 hr hlk hB rfl dX11_factorForm_241
                      · replace h := (if_neg c_48).symm.trans h
                        refine lv_aload_n S.1 S.2.1 dX11_factorForm_217 rfl (lv_at hl 0 rfl) ?_
                        refine va_ldcS S.1 S.2.1 S.2.2.2.1 (hKS.2.1 (RX11, 235, "}", 19) (List.mem_of_getElem? (i := 19) rfl)) dX11_factorForm_218 ?_
                        obtain ⟨r_49, σ_49, e_49, h⟩ := b2s h
                        refine mCallI S hK mKSc hKS hA (kX11_takes e_49) (cwX11_171 S.2.2.2.2 (rm := rmX11_takes) rfl rfl ⟨by dsimp only [rmSC1, rmX11_takes]; omega, by dsimp only [rmSC1, rmX11_takes]; omega⟩) hB rfl hl.1 rfl (lv_room (Nat.le_of_ble_eq_true rfl)) dX11_factorForm_220 ⟨Nat.zero_le _, Nat.zero_le _⟩ (fun H locs hB => ?_)
                        refine lv_if_eq (tgt := 240) S.1 S.2.1 dX11_factorForm_223 (by decide) (fun c_50 => ?_) (fun c_50 => ?_)
                        · replace h := (if_pos c_50).symm.trans h
                          refine lv_iconst (v := (0 : Int32)) S.1 S.2.1 dX11_factorForm_240 (by decide) ?_
                          cases h
                          exact gRetZ S.1 S.2.1 hr hlk hB rfl dX11_factorForm_241
                        · replace h := (if_neg c_50).symm.trans h
                          refine lv_aload_n S.1 S.2.1 dX11_factorForm_226 rfl (lv_at hl 0 rfl) ?_
                          refine lv_iload_n S.1 S.2.1 dX11_factorForm_227 rfl (lv_at hl 1 rfl) ?_
                          refine lv_iconst (v := (1 : Int32)) S.1 S.2.1 dX11_factorForm_228 (by decide) ?_
                          refine lv_iadd S.1 S.2.1 dX11_factorForm_229 ?_
                          obtain ⟨r_51, σ_51, e_51, h⟩ := b2s h
                          refine mCallI S hK mKSc hKS hA (hrc.2.2.2.2.2.2.2 e_51) (cwX11_250 S.2.2.2.2 (rm := (rmSC1 d)) rfl rfl ⟨by dsimp only [rmSC1]; omega, by dsimp only [rmSC1]; omega⟩) hB rfl hl.1 rfl (lv_room (Nat.le_of_ble_eq_true rfl)) dX11_factorForm_230 ⟨Nat.zero_le _, Nat.zero_le _⟩ (fun H locs hB => ?_)
                          refine lv_if_eq (tgt := 240) S.1 S.2.1 dX11_factorForm_233 (by decide) (fun c_52 => ?_) (fun c_52 => ?_)
                          · replace h := (if_pos c_52).symm.trans h
                            refine lv_iconst (v := (0 : Int32)) S.1 S.2.1 dX11_factorForm_240 (by decide) ?_
                            cases h
                            exact gRetZ S.1 S.2.1 hr hlk hB rfl dX11_factorForm_241
                          · replace h := (if_neg c_52).symm.trans h
                            refine lv_iconst (v := (1 : Int32)) S.1 S.2.1 dX11_factorForm_236 (by decide) ?_
                            refine lv_goto (tgt := 241) S.1 S.2.1 dX11_factorForm_237 (by decide) ?_
                            cases h
                            exact gRetZ S.1 S.2.1 hr hlk hB rfl dX11_factorForm_241
                · replace h := (if_neg c_28).symm.trans h
                  exact P162  _ _ _ _ _ h hB hl
            · replace h := (if_neg c_18).symm.trans h
              refine lv_iload_n S.1 S.2.1 dX11_factorForm_113 rfl (lv_at hl 1 rfl) ?_
              refine lv_bipush (v := (10 : Int32)) S.1 S.2.1 dX11_factorForm_114 (by decide) ?_
              refine lv_icmp_ge (tgt := 140) S.1 S.2.1 dX11_factorForm_116 (by decide) (fun c_53 => ?_) (fun c_53 => ?_)
              · replace h := (if_pos c_53).symm.trans h
                refine lv_iconst (v := (0 : Int32)) S.1 S.2.1 dX11_factorForm_140 (by decide) ?_
                cases h
                exact gRetZ S.1 S.2.1 hr hlk hB rfl dX11_factorForm_141
              · replace h := (if_neg c_53).symm.trans h
                refine lv_aload_n S.1 S.2.1 dX11_factorForm_119 rfl (lv_at hl 0 rfl) ?_
                obtain ⟨r_54, σ_54, e_54, h⟩ := b2s h
                refine mCallI S hK mKSc hKS hA (kX11_goes mKSc e_54) (cwX11_159 S.2.2.2.2 (rm := rmX11_goes) rfl rfl ⟨by dsimp only [rmSC1, rmX11_goes]; omega, by dsimp only [rmSC1, rmX11_goes]; omega⟩) hB rfl hl.1 rfl (lv_room (Nat.le_of_ble_eq_true rfl)) dX11_factorForm_120 ⟨Nat.zero_le _, Nat.zero_le _⟩ (fun H locs hB => ?_)
                refine lv_if_eq (tgt := 140) S.1 S.2.1 dX11_factorForm_123 (by decide) (fun c_55 => ?_) (fun c_55 => ?_)
                · replace h := (if_pos c_55).symm.trans h
                  refine lv_iconst (v := (0 : Int32)) S.1 S.2.1 dX11_factorForm_140 (by decide) ?_
                  cases h
                  exact gRetZ S.1 S.2.1 hr hlk hB rfl dX11_factorForm_141
                · replace h := (if_neg c_55).symm.trans h
                  refine lv_aload_n S.1 S.2.1 dX11_factorForm_126 rfl (lv_at hl 0 rfl) ?_
                  refine lv_iload_n S.1 S.2.1 dX11_factorForm_127 rfl (lv_at hl 1 rfl) ?_
                  refine lv_iconst (v := (1 : Int32)) S.1 S.2.1 dX11_factorForm_128 (by decide) ?_
                  refine lv_iadd S.1 S.2.1 dX11_factorForm_129 ?_
                  obtain ⟨r_56, σ_56, e_56, h⟩ := b2s h
                  refine mCallI S hK mKSc hKS hA (hrc.2.2.2.2.2.2.2 e_56) (cwX11_250 S.2.2.2.2 (rm := (rmSC1 d)) rfl rfl ⟨by dsimp only [rmSC1]; omega, by dsimp only [rmSC1]; omega⟩) hB rfl hl.1 rfl (lv_room (Nat.le_of_ble_eq_true rfl)) dX11_factorForm_130 ⟨Nat.zero_le _, Nat.zero_le _⟩ (fun H locs hB => ?_)
                  refine lv_if_eq (tgt := 140) S.1 S.2.1 dX11_factorForm_133 (by decide) (fun c_57 => ?_) (fun c_57 => ?_)
                  · replace h := (if_pos c_57).symm.trans h
                    refine lv_iconst (v := (0 : Int32)) S.1 S.2.1 dX11_factorForm_140 (by decide) ?_
                    cases h
                    exact gRetZ S.1 S.2.1 hr hlk hB rfl dX11_factorForm_141
                  · replace h := (if_neg c_57).symm.trans h
                    refine lv_iconst (v := (1 : Int32)) S.1 S.2.1 dX11_factorForm_136 (by decide) ?_
                    refine lv_goto (tgt := 141) S.1 S.2.1 dX11_factorForm_137 (by decide) ?_
                    cases h
                    exact gRetZ S.1 S.2.1 hr hlk hB rfl dX11_factorForm_141
          · replace h := (if_neg c_16).symm.trans h
            refine lv_iload_n S.1 S.2.1 dX11_factorForm_59 rfl (lv_at hl 1 rfl) ?_
            refine lv_bipush (v := (10 : Int32)) S.1 S.2.1 dX11_factorForm_60 (by decide) ?_
            refine lv_icmp_ge (tgt := 96) S.1 S.2.1 dX11_factorForm_62 (by decide) (fun c_58 => ?_) (fun c_58 => ?_)
            · replace h := (if_pos c_58).symm.trans h
              refine lv_iconst (v := (0 : Int32)) S.1 S.2.1 dX11_factorForm_96 (by decide) ?_
              cases h
              exact gRetZ S.1 S.2.1 hr hlk hB rfl dX11_factorForm_97
            · replace h := (if_neg c_58).symm.trans h
              refine lv_aload_n S.1 S.2.1 dX11_factorForm_65 rfl (lv_at hl 0 rfl) ?_
              obtain ⟨r_59, σ_59, e_59, h⟩ := b2s h
              refine mCallI S hK mKSc hKS hA (kX11_goes mKSc e_59) (cwX11_159 S.2.2.2.2 (rm := rmX11_goes) rfl rfl ⟨by dsimp only [rmSC1, rmX11_goes]; omega, by dsimp only [rmSC1, rmX11_goes]; omega⟩) hB rfl hl.1 rfl (lv_room (Nat.le_of_ble_eq_true rfl)) dX11_factorForm_66 ⟨Nat.zero_le _, Nat.zero_le _⟩ (fun H locs hB => ?_)
              refine lv_if_eq (tgt := 96) S.1 S.2.1 dX11_factorForm_69 (by decide) (fun c_60 => ?_) (fun c_60 => ?_)
              · replace h := (if_pos c_60).symm.trans h
                refine lv_iconst (v := (0 : Int32)) S.1 S.2.1 dX11_factorForm_96 (by decide) ?_
                cases h
                exact gRetZ S.1 S.2.1 hr hlk hB rfl dX11_factorForm_97
              · replace h := (if_neg c_60).symm.trans h
                refine lv_aload_n S.1 S.2.1 dX11_factorForm_72 rfl (lv_at hl 0 rfl) ?_
                refine lv_iload_n S.1 S.2.1 dX11_factorForm_73 rfl (lv_at hl 1 rfl) ?_
                refine lv_iconst (v := (1 : Int32)) S.1 S.2.1 dX11_factorForm_74 (by decide) ?_
                refine lv_iadd S.1 S.2.1 dX11_factorForm_75 ?_
                obtain ⟨r_61, σ_61, e_61, h⟩ := b2s h
                refine mCallI S hK mKSc hKS hA (hrc.2.2.2.2.1 e_61) (cwX11_195 S.2.2.2.2 (rm := (rmSC1 d)) rfl rfl ⟨by dsimp only [rmSC1]; omega, by dsimp only [rmSC1]; omega⟩) hB rfl hl.1 rfl (lv_room (Nat.le_of_ble_eq_true rfl)) dX11_factorForm_76 ⟨Nat.zero_le _, Nat.zero_le _⟩ (fun H locs hB => ?_)
                refine lv_if_eq (tgt := 96) S.1 S.2.1 dX11_factorForm_79 (by decide) (fun c_62 => ?_) (fun c_62 => ?_)
                · replace h := (if_pos c_62).symm.trans h
                  refine lv_iconst (v := (0 : Int32)) S.1 S.2.1 dX11_factorForm_96 (by decide) ?_
                  cases h
                  exact gRetZ S.1 S.2.1 hr hlk hB rfl dX11_factorForm_97
                · replace h := (if_neg c_62).symm.trans h
                  refine lv_aload_n S.1 S.2.1 dX11_factorForm_82 rfl (lv_at hl 0 rfl) ?_
                  refine va_ldcSw S.1 S.2.1 S.2.2.2.1 (hKS.2.1 (RX11, 265, ")", 30) (List.mem_of_getElem? (i := 30) rfl)) dX11_factorForm_83 ?_
                  obtain ⟨r_63, σ_63, e_63, h⟩ := b2s h
                  refine mCallI S hK mKSc hKS hA (kX11_takes e_63) (cwX11_171 S.2.2.2.2 (rm := rmX11_takes) rfl rfl ⟨by dsimp only [rmSC1, rmX11_takes]; omega, by dsimp only [rmSC1, rmX11_takes]; omega⟩) hB rfl hl.1 rfl (lv_room (Nat.le_of_ble_eq_true rfl)) dX11_factorForm_86 ⟨Nat.zero_le _, Nat.zero_le _⟩ (fun H locs hB => ?_)
                  refine lv_if_eq (tgt := 96) S.1 S.2.1 dX11_factorForm_89 (by decide) (fun c_64 => ?_) (fun c_64 => ?_)
                  · replace h := (if_pos c_64).symm.trans h
                    refine lv_iconst (v := (0 : Int32)) S.1 S.2.1 dX11_factorForm_96 (by decide) ?_
                    cases h
                    exact gRetZ S.1 S.2.1 hr hlk hB rfl dX11_factorForm_97
                  · replace h := (if_neg c_64).symm.trans h
                    refine lv_iconst (v := (1 : Int32)) S.1 S.2.1 dX11_factorForm_92 (by decide) ?_
                    refine lv_goto (tgt := 97) S.1 S.2.1 dX11_factorForm_93 (by decide) ?_
                    cases h
                    exact gRetZ S.1 S.2.1 hr hlk hB rfl dX11_factorForm_97
        · replace h := (if_neg c_14).symm.trans h
          refine lv_aload_n S.1 S.2.1 dX11_factorForm_44 rfl (lv_at hl 0 rfl) ?_
          obtain ⟨r_65, σ_65, e_65, h⟩ := b2s h
          refine mCallI S hK mKSc hKS hA (kX11_goes mKSc e_65) (cwX11_159 S.2.2.2.2 (rm := rmX11_goes) rfl rfl ⟨by dsimp only [rmSC1, rmX11_goes]; omega, by dsimp only [rmSC1, rmX11_goes]; omega⟩) hB rfl hl.1 rfl (lv_room (Nat.le_of_ble_eq_true rfl)) dX11_factorForm_45 ⟨Nat.zero_le _, Nat.zero_le _⟩ (fun H locs hB => ?_)
          obtain ⟨z_66, h⟩ := gd h
          cases h
          exact gRetZ S.1 S.2.1 hr hlk hB (nzB z_66) dX11_factorForm_48
def FSC1 (L : Nat) : Nat → RC
  | 0 => fun _ _ _ _ _ => none
  | d+1 => fun k a b w σ => if k = 0 then FX11_formulaForm (FSC1 L d) L a σ else if k = 1 then FX11_rowForm (FSC1 L d) L a w σ else if k = 2 then FX11_sinceForm (FSC1 L d) L a σ else if k = 3 then FX11_oneForm (FSC1 L d) L a σ else if k = 4 then FX11_expressionForm (FSC1 L d) L a σ else if k = 5 then FX11_productForm (FSC1 L d) L a σ else if k = 6 then FX11_bracesForm (FSC1 L d) L a σ else if k = 7 then FX11_factorForm (FSC1 L d) L a σ else none
theorem FSC1_0 {L d : Nat} {a : Int32} {σ : MS} : FSC1 L (d + 1) 0 a 0 0 σ = FX11_formulaForm (FSC1 L d) L a σ := rfl
theorem FSC1_1 {L d : Nat} {a : Int32} {w : Nat} {σ : MS} : FSC1 L (d + 1) 1 a 0 w σ = FX11_rowForm (FSC1 L d) L a w σ := rfl
theorem FSC1_2 {L d : Nat} {a : Int32} {σ : MS} : FSC1 L (d + 1) 2 a 0 0 σ = FX11_sinceForm (FSC1 L d) L a σ := rfl
theorem FSC1_3 {L d : Nat} {a : Int32} {σ : MS} : FSC1 L (d + 1) 3 a 0 0 σ = FX11_oneForm (FSC1 L d) L a σ := rfl
theorem FSC1_4 {L d : Nat} {a : Int32} {σ : MS} : FSC1 L (d + 1) 4 a 0 0 σ = FX11_expressionForm (FSC1 L d) L a σ := rfl
theorem FSC1_5 {L d : Nat} {a : Int32} {σ : MS} : FSC1 L (d + 1) 5 a 0 0 σ = FX11_productForm (FSC1 L d) L a σ := rfl
theorem FSC1_6 {L d : Nat} {a : Int32} {σ : MS} : FSC1 L (d + 1) 6 a 0 0 σ = FX11_bracesForm (FSC1 L d) L a σ := rfl
theorem FSC1_7 {L d : Nat} {a : Int32} {σ : MS} : FSC1 L (d + 1) 7 a 0 0 σ = FX11_factorForm (FSC1 L d) L a σ := rfl
theorem SC1_all {l : Launch} {D : va_G} {cI cJ : ClassId} {ad adK adV tK : Nat → Nat} (L : Nat) : ∀ d : Nat, SC1 l D cI cJ ad adK adV tK d (FSC1 L d) := by
  intro d
  induction d with
  | zero => exact ⟨(fun h => by cases h), (fun h => by cases h), (fun h => by cases h), (fun h => by cases h), (fun h => by cases h), (fun h => by cases h), (fun h => by cases h), (fun h => by cases h)⟩
  | succ d ih => exact ⟨fun h => kX11_formulaForm ih (FSC1_0.symm.trans h), fun h => kX11_rowForm ih (FSC1_1.symm.trans h), fun h => kX11_sinceForm ih (FSC1_2.symm.trans h), fun h => kX11_oneForm ih (FSC1_3.symm.trans h), fun h => kX11_expressionForm ih (FSC1_4.symm.trans h), fun h => kX11_productForm ih (FSC1_5.symm.trans h), fun h => kX11_bracesForm ih (FSC1_6.symm.trans h), fun h => kX11_factorForm ih (FSC1_7.symm.trans h)⟩
def dSC1 : Nat := 700
abbrev rtSC1 : Room := { frames := 720, cells := 0, slots := 0, locals := 28400 }
theorem tSC1_formulaForm {l : Launch} {D : va_G} {cI cJ : ClassId} {ad adK adV tK : Nat → Nat} {L : Nat} {a : Int32} {σ σ' : MS} {r : Int32} (h : FSC1 L dSC1 0 a 0 0 σ = some (r, σ')) : gMet l yX11_formulaForm qX11_formulaForm rtSC1 0 0 D vwCl [(cI, .int), (cJ, .long)] (mKS adK adV tK) [.ref (ad 0), .int a] (MW cI cJ ad σ) (MW cI cJ ad σ') (some (.int r)) := by
  have hrc : SC1 l D cI cJ ad adK adV tK dSC1 (FSC1 L dSC1) := SC1_all L dSC1
  exact hrc.1 h
theorem tSC1_rowForm {l : Launch} {D : va_G} {cI cJ : ClassId} {ad adK adV tK : Nat → Nat} {L : Nat} {a : Int32} {w : Nat} {σ σ' : MS} {r : Int32} (h : FSC1 L dSC1 1 a 0 w σ = some (r, σ')) : gMet l yX11_rowForm qX11_rowForm rtSC1 0 0 D vwCl [(cI, .int), (cJ, .long)] (mKS adK adV tK) [.ref (ad 0), .int a, .ref (adK w)] (MW cI cJ ad σ) (MW cI cJ ad σ') (some (.int r)) := by
  have hrc : SC1 l D cI cJ ad adK adV tK dSC1 (FSC1 L dSC1) := SC1_all L dSC1
  exact hrc.2.1 h
theorem tSC1_sinceForm {l : Launch} {D : va_G} {cI cJ : ClassId} {ad adK adV tK : Nat → Nat} {L : Nat} {a : Int32} {σ σ' : MS} {r : Int32} (h : FSC1 L dSC1 2 a 0 0 σ = some (r, σ')) : gMet l yX11_sinceForm qX11_sinceForm rtSC1 0 0 D vwCl [(cI, .int), (cJ, .long)] (mKS adK adV tK) [.ref (ad 0), .int a] (MW cI cJ ad σ) (MW cI cJ ad σ') (some (.int r)) := by
  have hrc : SC1 l D cI cJ ad adK adV tK dSC1 (FSC1 L dSC1) := SC1_all L dSC1
  exact hrc.2.2.1 h
theorem tSC1_oneForm {l : Launch} {D : va_G} {cI cJ : ClassId} {ad adK adV tK : Nat → Nat} {L : Nat} {a : Int32} {σ σ' : MS} {r : Int32} (h : FSC1 L dSC1 3 a 0 0 σ = some (r, σ')) : gMet l yX11_oneForm qX11_oneForm rtSC1 0 0 D vwCl [(cI, .int), (cJ, .long)] (mKS adK adV tK) [.ref (ad 0), .int a] (MW cI cJ ad σ) (MW cI cJ ad σ') (some (.int r)) := by
  have hrc : SC1 l D cI cJ ad adK adV tK dSC1 (FSC1 L dSC1) := SC1_all L dSC1
  exact hrc.2.2.2.1 h
theorem tSC1_expressionForm {l : Launch} {D : va_G} {cI cJ : ClassId} {ad adK adV tK : Nat → Nat} {L : Nat} {a : Int32} {σ σ' : MS} {r : Int32} (h : FSC1 L dSC1 4 a 0 0 σ = some (r, σ')) : gMet l yX11_expressionForm qX11_expressionForm rtSC1 0 0 D vwCl [(cI, .int), (cJ, .long)] (mKS adK adV tK) [.ref (ad 0), .int a] (MW cI cJ ad σ) (MW cI cJ ad σ') (some (.int r)) := by
  have hrc : SC1 l D cI cJ ad adK adV tK dSC1 (FSC1 L dSC1) := SC1_all L dSC1
  exact hrc.2.2.2.2.1 h
theorem tSC1_productForm {l : Launch} {D : va_G} {cI cJ : ClassId} {ad adK adV tK : Nat → Nat} {L : Nat} {a : Int32} {σ σ' : MS} {r : Int32} (h : FSC1 L dSC1 5 a 0 0 σ = some (r, σ')) : gMet l yX11_productForm qX11_productForm rtSC1 0 0 D vwCl [(cI, .int), (cJ, .long)] (mKS adK adV tK) [.ref (ad 0), .int a] (MW cI cJ ad σ) (MW cI cJ ad σ') (some (.int r)) := by
  have hrc : SC1 l D cI cJ ad adK adV tK dSC1 (FSC1 L dSC1) := SC1_all L dSC1
  exact hrc.2.2.2.2.2.1 h
theorem tSC1_bracesForm {l : Launch} {D : va_G} {cI cJ : ClassId} {ad adK adV tK : Nat → Nat} {L : Nat} {a : Int32} {σ σ' : MS} {r : Int32} (h : FSC1 L dSC1 6 a 0 0 σ = some (r, σ')) : gMet l yX11_bracesForm qX11_bracesForm rtSC1 0 0 D vwCl [(cI, .int), (cJ, .long)] (mKS adK adV tK) [.ref (ad 0), .int a] (MW cI cJ ad σ) (MW cI cJ ad σ') (some (.int r)) := by
  have hrc : SC1 l D cI cJ ad adK adV tK dSC1 (FSC1 L dSC1) := SC1_all L dSC1
  exact hrc.2.2.2.2.2.2.1 h
theorem tSC1_factorForm {l : Launch} {D : va_G} {cI cJ : ClassId} {ad adK adV tK : Nat → Nat} {L : Nat} {a : Int32} {σ σ' : MS} {r : Int32} (h : FSC1 L dSC1 7 a 0 0 σ = some (r, σ')) : gMet l yX11_factorForm qX11_factorForm rtSC1 0 0 D vwCl [(cI, .int), (cJ, .long)] (mKS adK adV tK) [.ref (ad 0), .int a] (MW cI cJ ad σ) (MW cI cJ ad σ') (some (.int r)) := by
  have hrc : SC1 l D cI cJ ad adK adV tK dSC1 (FSC1 L dSC1) := SC1_all L dSC1
  exact hrc.2.2.2.2.2.2.2 h
def FX11_item_215 (L : Nat)   (σ1 : MS) : Option (Int32 × MS) :=
    b2 (FX11_takes L 4 σ1) fun r_17 σ_17 =>
    if r_17 = 0 then
      some ((0 : Int32), σ_17)
    else
      some ((1 : Int32), σ_17)
def FX11_item_41 (L : Nat)   (σ1 : MS) : Option (Int32 × MS) :=
    b2 (FX11_takesNumber σ1) fun r_45 σ_45 =>
    if r_45 = 0 then
      some ((0 : Int32), σ_45)
    else
      b2 (FX11_takes L 4 σ_45) fun r_47 σ_47 =>
      if r_47 = 0 then
        some ((0 : Int32), σ_47)
      else
        some ((1 : Int32), σ_47)
def FX11_item (L : Nat)  (σ : MS) : Option (Int32 × MS) :=
  b2 (FX11_takes L 1 σ) fun r_1 σ_1 =>
  if r_1 = 0 then
    b2 (FX11_takes L 5 σ_1) fun r_3 σ_3 =>
    if r_3 = 0 then
      b2 (FX11_takes L 7 σ_3) fun r_5 σ_5 =>
      if r_5 = 0 then
        b2 (FX11_takes L 8 σ_5) fun r_7 σ_7 =>
        if r_7 = 0 then
          some ((0 : Int32), σ_7)
        else
          b2 (FX11_takesName L σ_7) fun r_9 σ_9 =>
          if r_9 = 0 then
            some ((0 : Int32), σ_9)
          else
            b2 (FX11_takes L 9 σ_9) fun r_11 σ_11 =>
            if r_11 = 0 then
              some ((0 : Int32), σ_11)
            else
              b2 (FSC1 L dSC1 0 (0 : Int32) 0 0 σ_11) fun r_13 σ_13 =>
              if r_13 = 0 then
                some ((0 : Int32), σ_13)
              else
                b2 (FX11_sees L 10 σ_13) fun r_15 σ_15 =>
                if r_15 = 0 then
                  FX11_item_215 L σ_15
                else
                  b2 (FX11_goes σ_15) fun r_19 σ_19 =>
                  if r_19 = 0 then
                    some ((0 : Int32), σ_19)
                  else
                    b2 (FX11_takesNumber σ_19) fun r_21 σ_21 =>
                    if r_21 = 0 then
                      some ((0 : Int32), σ_21)
                    else
                      FX11_item_215 L σ_21
      else
        b2 (FX11_takesName L σ_5) fun r_23 σ_23 =>
        if r_23 = 0 then
          some ((0 : Int32), σ_23)
        else
          b2 (FX11_takes L 2 σ_23) fun r_25 σ_25 =>
          if r_25 = 0 then
            some ((0 : Int32), σ_25)
          else
            b2 (FSC1 L dSC1 4 (0 : Int32) 0 0 σ_25) fun r_27 σ_27 =>
            if r_27 = 0 then
              some ((0 : Int32), σ_27)
            else
              b2 (FX11_takes L 4 σ_27) fun r_29 σ_29 =>
              if r_29 = 0 then
                some ((0 : Int32), σ_29)
              else
                some ((1 : Int32), σ_29)
    else
      b2 (FX11_takesName L σ_3) fun r_31 σ_31 =>
      if r_31 = 0 then
        some ((0 : Int32), σ_31)
      else
        b2 (FX11_takes L 6 σ_31) fun r_33 σ_33 =>
        if r_33 = 0 then
          some ((0 : Int32), σ_33)
        else
          b2 (FSC1 L dSC1 0 (0 : Int32) 0 0 σ_33) fun r_35 σ_35 =>
          if r_35 = 0 then
            some ((0 : Int32), σ_35)
          else
            b2 (FX11_takes L 4 σ_35) fun r_37 σ_37 =>
            if r_37 = 0 then
              some ((0 : Int32), σ_37)
            else
              some ((1 : Int32), σ_37)
  else
    b2 (FX11_takesName L σ_1) fun r_39 σ_39 =>
    if r_39 = 0 then
      some ((0 : Int32), σ_39)
    else
      b2 (FX11_takes L 2 σ_39) fun r_41 σ_41 =>
      if r_41 = 0 then
        some ((0 : Int32), σ_41)
      else
        b2 (FX11_sees L 3 σ_41) fun r_43 σ_43 =>
        if r_43 = 0 then
          FX11_item_41 L σ_43
        else
          b2 (FX11_goes σ_43) fun r_49 σ_49 =>
          if r_49 = 0 then
            some ((0 : Int32), σ_49)
          else
            FX11_item_41 L σ_49
abbrev rmX11_item : Room := { frames := 721, cells := 0, slots := 0, locals := 28421 }
set_option maxRecDepth 100000 in
set_option maxHeartbeats 4000000 in
theorem kX11_item {l : Launch} {D : va_G} {cI cJ : ClassId} {ad : Nat → Nat} {adK adV tK : Nat → Nat} {L : Nat}  {σ σ' : MS} {r : Int32} (h : FX11_item L  σ = some (r, σ')) : gMet l yX11_item qX11_item rmX11_item 0 0 D vwCl [(cI, .int), (cJ, .long)] (mKS adK adV tK) [.ref (ad 0)] (MW cI cJ ad σ) (MW cI cJ ad σ') (some (.int r)) := by
  refine gMet.of (cc := cX11_item) (maxL := 1) (ret := (some .boolean)) (by decide) rfl (Nat.le_of_ble_eq_true rfl) ?_
  intro p e s m args below meth c S hr hlk hnm hK hKS hA hB ls hl
  have hl : lv_has ls 1 [(0, .ref (ad 0))] := hl
  replace S : CallFix p m c cX11_item 1 s args (_ :: wsL_law) RX11 := S
  rw [FX11_item] at h
  have P215 : ∀  (σ1 : MS) (H : Heap) (locs : List Loc) (ls : Array Slot), FX11_item_215 L  σ1 = some (r, σ') → gB D vwCl (va_A (MW cI cJ ad σ) s.heap.size) s.heap (MW cI cJ ad σ1) [] H locs → lv_has ls 1 [(0, .ref (ad 0))] → W p l e rmX11_item s m args below meth c H locs 0 0 (MQ below (gQ D vwCl (MW cI cJ ad σ) (MW cI cJ ad σ') (some (.int r)) s.heap.size) args s 0 0 (va_A (MW cI cJ ad σ) s.heap.size)) (F0 m 215 ls []) := by
    intro   σ1 H locs ls h hB hl
    rw [FX11_item_215] at h
    refine lv_aload_n S.1 S.2.1 dX11_item_215 rfl (lv_at hl 0 rfl) ?_
    refine va_ldcS S.1 S.2.1 S.2.2.2.1 (hKS.2.1 (RX11, 184, ";", 4) (List.mem_of_getElem? (i := 4) rfl)) dX11_item_216 ?_
    obtain ⟨r_17, σ_17, e_17, h⟩ := b2s h
    refine mCallI S hK mKSc hKS hA (kX11_takes e_17) (cwX11_171 S.2.2.2.2 (rm := rmX11_takes) rfl rfl ⟨Nat.le_of_ble_eq_true rfl, Nat.le_of_ble_eq_true rfl⟩) hB rfl hl.1 rfl (lv_room (Nat.le_of_ble_eq_true rfl)) dX11_item_218 ⟨Nat.zero_le _, Nat.zero_le _⟩ (fun H locs hB => ?_)
    refine lv_if_eq (tgt := 228) S.1 S.2.1 dX11_item_221 (by decide) (fun c_18 => ?_) (fun c_18 => ?_)
    · replace h := (if_pos c_18).symm.trans h
      refine lv_iconst (v := (0 : Int32)) S.1 S.2.1 dX11_item_228 (by decide) ?_
      cases h
      exact gRetZ S.1 S.2.1 hr hlk hB rfl dX11_item_229
    · replace h := (if_neg c_18).symm.trans h
      refine lv_iconst (v := (1 : Int32)) S.1 S.2.1 dX11_item_224 (by decide) ?_
      refine lv_goto (tgt := 229) S.1 S.2.1 dX11_item_225 (by decide) ?_
      cases h
      exact gRetZ S.1 S.2.1 hr hlk hB rfl dX11_item_229
  have P41 : ∀  (σ1 : MS) (H : Heap) (locs : List Loc) (ls : Array Slot), FX11_item_41 L  σ1 = some (r, σ') → gB D vwCl (va_A (MW cI cJ ad σ) s.heap.size) s.heap (MW cI cJ ad σ1) [] H locs → lv_has ls 1 [(0, .ref (ad 0))] → W p l e rmX11_item s m args below meth c H locs 0 0 (MQ below (gQ D vwCl (MW cI cJ ad σ) (MW cI cJ ad σ') (some (.int r)) s.heap.size) args s 0 0 (va_A (MW cI cJ ad σ) s.heap.size)) (F0 m 41 ls []) := by
    intro   σ1 H locs ls h hB hl
    rw [FX11_item_41] at h
    refine lv_aload_n S.1 S.2.1 dX11_item_41 rfl (lv_at hl 0 rfl) ?_
    obtain ⟨r_45, σ_45, e_45, h⟩ := b2s h
    refine mCallI S hK mKSc hKS hA (kX11_takesNumber mKSc e_45) (cwX11_181 S.2.2.2.2 (rm := rmX11_takesNumber) rfl rfl ⟨Nat.le_of_ble_eq_true rfl, Nat.le_of_ble_eq_true rfl⟩) hB rfl hl.1 rfl (lv_room (Nat.le_of_ble_eq_true rfl)) dX11_item_42 ⟨Nat.zero_le _, Nat.zero_le _⟩ (fun H locs hB => ?_)
    refine lv_if_eq (tgt := 61) S.1 S.2.1 dX11_item_45 (by decide) (fun c_46 => ?_) (fun c_46 => ?_)
    · replace h := (if_pos c_46).symm.trans h
      refine lv_iconst (v := (0 : Int32)) S.1 S.2.1 dX11_item_61 (by decide) ?_
      cases h
      exact gRetZ S.1 S.2.1 hr hlk hB rfl dX11_item_62
    · replace h := (if_neg c_46).symm.trans h
      refine lv_aload_n S.1 S.2.1 dX11_item_48 rfl (lv_at hl 0 rfl) ?_
      refine va_ldcS S.1 S.2.1 S.2.2.2.1 (hKS.2.1 (RX11, 184, ";", 4) (List.mem_of_getElem? (i := 4) rfl)) dX11_item_49 ?_
      obtain ⟨r_47, σ_47, e_47, h⟩ := b2s h
      refine mCallI S hK mKSc hKS hA (kX11_takes e_47) (cwX11_171 S.2.2.2.2 (rm := rmX11_takes) rfl rfl ⟨Nat.le_of_ble_eq_true rfl, Nat.le_of_ble_eq_true rfl⟩) hB rfl hl.1 rfl (lv_room (Nat.le_of_ble_eq_true rfl)) dX11_item_51 ⟨Nat.zero_le _, Nat.zero_le _⟩ (fun H locs hB => ?_)
      refine lv_if_eq (tgt := 61) S.1 S.2.1 dX11_item_54 (by decide) (fun c_48 => ?_) (fun c_48 => ?_)
      · replace h := (if_pos c_48).symm.trans h
        refine lv_iconst (v := (0 : Int32)) S.1 S.2.1 dX11_item_61 (by decide) ?_
        cases h
        exact gRetZ S.1 S.2.1 hr hlk hB rfl dX11_item_62
      · replace h := (if_neg c_48).symm.trans h
        refine lv_iconst (v := (1 : Int32)) S.1 S.2.1 dX11_item_57 (by decide) ?_
        refine lv_goto (tgt := 62) S.1 S.2.1 dX11_item_58 (by decide) ?_
        cases h
        exact gRetZ S.1 S.2.1 hr hlk hB rfl dX11_item_62
  refine lv_aload_n S.1 S.2.1 dX11_item_0 rfl (lv_at hl 0 rfl) ?_
  refine va_ldcS S.1 S.2.1 S.2.2.2.1 (hKS.2.1 (RX11, 169, "signal", 1) (List.mem_of_getElem? (i := 1) rfl)) dX11_item_1 ?_
  obtain ⟨r_1, σ_1, e_1, h⟩ := b2s h
  refine mCallI S hK mKSc hKS hA (kX11_takes e_1) (cwX11_171 S.2.2.2.2 (rm := rmX11_takes) rfl rfl ⟨Nat.le_of_ble_eq_true rfl, Nat.le_of_ble_eq_true rfl⟩) hB rfl hl.1 rfl (lv_room (Nat.le_of_ble_eq_true rfl)) dX11_item_3 ⟨Nat.zero_le _, Nat.zero_le _⟩ (fun H locs hB => ?_)
  refine lv_if_eq (tgt := 63) S.1 S.2.1 dX11_item_6 (by decide) (fun c_2 => ?_) (fun c_2 => ?_)
  · replace h := (if_pos c_2).symm.trans h
    refine lv_aload_n S.1 S.2.1 dX11_item_63 rfl (lv_at hl 0 rfl) ?_
    refine va_ldcS S.1 S.2.1 S.2.2.2.1 (hKS.2.1 (RX11, 186, "let", 5) (List.mem_of_getElem? (i := 5) rfl)) dX11_item_64 ?_
    obtain ⟨r_3, σ_3, e_3, h⟩ := b2s h
    refine mCallI S hK mKSc hKS hA (kX11_takes e_3) (cwX11_171 S.2.2.2.2 (rm := rmX11_takes) rfl rfl ⟨Nat.le_of_ble_eq_true rfl, Nat.le_of_ble_eq_true rfl⟩) hB rfl hl.1 rfl (lv_room (Nat.le_of_ble_eq_true rfl)) dX11_item_66 ⟨Nat.zero_le _, Nat.zero_le _⟩ (fun H locs hB => ?_)
    refine lv_if_eq (tgt := 111) S.1 S.2.1 dX11_item_69 (by decide) (fun c_4 => ?_) (fun c_4 => ?_)
    · replace h := (if_pos c_4).symm.trans h
      refine lv_aload_n S.1 S.2.1 dX11_item_111 rfl (lv_at hl 0 rfl) ?_
      refine va_ldcS S.1 S.2.1 S.2.2.2.1 (hKS.2.1 (RX11, 193, "value", 7) (List.mem_of_getElem? (i := 7) rfl)) dX11_item_112 ?_
      obtain ⟨r_5, σ_5, e_5, h⟩ := b2s h
      refine mCallI S hK mKSc hKS hA (kX11_takes e_5) (cwX11_171 S.2.2.2.2 (rm := rmX11_takes) rfl rfl ⟨Nat.le_of_ble_eq_true rfl, Nat.le_of_ble_eq_true rfl⟩) hB rfl hl.1 rfl (lv_room (Nat.le_of_ble_eq_true rfl)) dX11_item_114 ⟨Nat.zero_le _, Nat.zero_le _⟩ (fun H locs hB => ?_)
      refine lv_if_eq (tgt := 159) S.1 S.2.1 dX11_item_117 (by decide) (fun c_6 => ?_) (fun c_6 => ?_)
      · replace h := (if_pos c_6).symm.trans h
        refine lv_aload_n S.1 S.2.1 dX11_item_159 rfl (lv_at hl 0 rfl) ?_
        refine va_ldcS S.1 S.2.1 S.2.2.2.1 (hKS.2.1 (RX11, 198, "watch", 8) (List.mem_of_getElem? (i := 8) rfl)) dX11_item_160 ?_
        obtain ⟨r_7, σ_7, e_7, h⟩ := b2s h
        refine mCallI S hK mKSc hKS hA (kX11_takes e_7) (cwX11_171 S.2.2.2.2 (rm := rmX11_takes) rfl rfl ⟨Nat.le_of_ble_eq_true rfl, Nat.le_of_ble_eq_true rfl⟩) hB rfl hl.1 rfl (lv_room (Nat.le_of_ble_eq_true rfl)) dX11_item_162 ⟨Nat.zero_le _, Nat.zero_le _⟩ (fun H locs hB => ?_)
        refine lv_if_eq (tgt := 228) S.1 S.2.1 dX11_item_165 (by decide) (fun c_8 => ?_) (fun c_8 => ?_)
        · replace h := (if_pos c_8).symm.trans h
          refine lv_iconst (v := (0 : Int32)) S.1 S.2.1 dX11_item_228 (by decide) ?_
          cases h
          exact gRetZ S.1 S.2.1 hr hlk hB rfl dX11_item_229
        · replace h := (if_neg c_8).symm.trans h
          refine lv_aload_n S.1 S.2.1 dX11_item_168 rfl (lv_at hl 0 rfl) ?_
          obtain ⟨r_9, σ_9, e_9, h⟩ := b2s h
          refine mCallI S hK mKSc hKS hA (kX11_takesName e_9) (cwX11_174 S.2.2.2.2 (rm := rmX11_takesName) rfl rfl ⟨Nat.le_of_ble_eq_true rfl, Nat.le_of_ble_eq_true rfl⟩) hB rfl hl.1 rfl (lv_room (Nat.le_of_ble_eq_true rfl)) dX11_item_169 ⟨Nat.zero_le _, Nat.zero_le _⟩ (fun H locs hB => ?_)
          refine lv_if_eq (tgt := 228) S.1 S.2.1 dX11_item_172 (by decide) (fun c_10 => ?_) (fun c_10 => ?_)
          · replace h := (if_pos c_10).symm.trans h
            refine lv_iconst (v := (0 : Int32)) S.1 S.2.1 dX11_item_228 (by decide) ?_
            cases h
            exact gRetZ S.1 S.2.1 hr hlk hB rfl dX11_item_229
          · replace h := (if_neg c_10).symm.trans h
            refine lv_aload_n S.1 S.2.1 dX11_item_175 rfl (lv_at hl 0 rfl) ?_
            refine va_ldcS S.1 S.2.1 S.2.2.2.1 (hKS.2.1 (RX11, 200, ":", 9) (List.mem_of_getElem? (i := 9) rfl)) dX11_item_176 ?_
            obtain ⟨r_11, σ_11, e_11, h⟩ := b2s h
            refine mCallI S hK mKSc hKS hA (kX11_takes e_11) (cwX11_171 S.2.2.2.2 (rm := rmX11_takes) rfl rfl ⟨Nat.le_of_ble_eq_true rfl, Nat.le_of_ble_eq_true rfl⟩) hB rfl hl.1 rfl (lv_room (Nat.le_of_ble_eq_true rfl)) dX11_item_178 ⟨Nat.zero_le _, Nat.zero_le _⟩ (fun H locs hB => ?_)
            refine lv_if_eq (tgt := 228) S.1 S.2.1 dX11_item_181 (by decide) (fun c_12 => ?_) (fun c_12 => ?_)
            · replace h := (if_pos c_12).symm.trans h
              refine lv_iconst (v := (0 : Int32)) S.1 S.2.1 dX11_item_228 (by decide) ?_
              cases h
              exact gRetZ S.1 S.2.1 hr hlk hB rfl dX11_item_229
            · replace h := (if_neg c_12).symm.trans h
              refine lv_aload_n S.1 S.2.1 dX11_item_184 rfl (lv_at hl 0 rfl) ?_
              refine lv_iconst (v := (0 : Int32)) S.1 S.2.1 dX11_item_185 (by decide) ?_
              obtain ⟨r_13, σ_13, e_13, h⟩ := b2s h
              refine mCallI S hK mKSc hKS hA (tSC1_formulaForm e_13) (cwX11_190 S.2.2.2.2 (rm := rtSC1) rfl rfl ⟨Nat.le_of_ble_eq_true rfl, Nat.le_of_ble_eq_true rfl⟩) hB rfl hl.1 rfl (lv_room (Nat.le_of_ble_eq_true rfl)) dX11_item_186 ⟨Nat.zero_le _, Nat.zero_le _⟩ (fun H locs hB => ?_)
              refine lv_if_eq (tgt := 228) S.1 S.2.1 dX11_item_189 (by decide) (fun c_14 => ?_) (fun c_14 => ?_)
              · replace h := (if_pos c_14).symm.trans h
                refine lv_iconst (v := (0 : Int32)) S.1 S.2.1 dX11_item_228 (by decide) ?_
                cases h
                exact gRetZ S.1 S.2.1 hr hlk hB rfl dX11_item_229
              · replace h := (if_neg c_14).symm.trans h
                refine lv_aload_n S.1 S.2.1 dX11_item_192 rfl (lv_at hl 0 rfl) ?_
                refine va_ldcS S.1 S.2.1 S.2.2.2.1 (hKS.2.1 (RX11, 202, "level", 10) (List.mem_of_getElem? (i := 10) rfl)) dX11_item_193 ?_
                obtain ⟨r_15, σ_15, e_15, h⟩ := b2s h
                refine mCallI S hK mKSc hKS hA (kX11_sees e_15) (cwX11_155 S.2.2.2.2 (rm := rmX11_sees) rfl rfl ⟨Nat.le_of_ble_eq_true rfl, Nat.le_of_ble_eq_true rfl⟩) hB rfl hl.1 rfl (lv_room (Nat.le_of_ble_eq_true rfl)) dX11_item_195 ⟨Nat.zero_le _, Nat.zero_le _⟩ (fun H locs hB => ?_)
                refine lv_if_eq (tgt := 215) S.1 S.2.1 dX11_item_198 (by decide) (fun c_16 => ?_) (fun c_16 => ?_)
                · replace h := (if_pos c_16).symm.trans h
                  exact P215  _ _ _ _ h hB hl
                · replace h := (if_neg c_16).symm.trans h
                  refine lv_aload_n S.1 S.2.1 dX11_item_201 rfl (lv_at hl 0 rfl) ?_
                  obtain ⟨r_19, σ_19, e_19, h⟩ := b2s h
                  refine mCallI S hK mKSc hKS hA (kX11_goes mKSc e_19) (cwX11_159 S.2.2.2.2 (rm := rmX11_goes) rfl rfl ⟨Nat.le_of_ble_eq_true rfl, Nat.le_of_ble_eq_true rfl⟩) hB rfl hl.1 rfl (lv_room (Nat.le_of_ble_eq_true rfl)) dX11_item_202 ⟨Nat.zero_le _, Nat.zero_le _⟩ (fun H locs hB => ?_)
                  refine lv_if_eq (tgt := 228) S.1 S.2.1 dX11_item_205 (by decide) (fun c_20 => ?_) (fun c_20 => ?_)
                  · replace h := (if_pos c_20).symm.trans h
                    refine lv_iconst (v := (0 : Int32)) S.1 S.2.1 dX11_item_228 (by decide) ?_
                    cases h
                    exact gRetZ S.1 S.2.1 hr hlk hB rfl dX11_item_229
                  · replace h := (if_neg c_20).symm.trans h
                    refine lv_aload_n S.1 S.2.1 dX11_item_208 rfl (lv_at hl 0 rfl) ?_
                    obtain ⟨r_21, σ_21, e_21, h⟩ := b2s h
                    refine mCallI S hK mKSc hKS hA (kX11_takesNumber mKSc e_21) (cwX11_181 S.2.2.2.2 (rm := rmX11_takesNumber) rfl rfl ⟨Nat.le_of_ble_eq_true rfl, Nat.le_of_ble_eq_true rfl⟩) hB rfl hl.1 rfl (lv_room (Nat.le_of_ble_eq_true rfl)) dX11_item_209 ⟨Nat.zero_le _, Nat.zero_le _⟩ (fun H locs hB => ?_)
                    refine lv_if_eq (tgt := 228) S.1 S.2.1 dX11_item_212 (by decide) (fun c_22 => ?_) (fun c_22 => ?_)
                    · replace h := (if_pos c_22).symm.trans h
                      refine lv_iconst (v := (0 : Int32)) S.1 S.2.1 dX11_item_228 (by decide) ?_
                      cases h
                      exact gRetZ S.1 S.2.1 hr hlk hB rfl dX11_item_229
                    · replace h := (if_neg c_22).symm.trans h
                      exact P215  _ _ _ _ h hB hl
      · replace h := (if_neg c_6).symm.trans h
        refine lv_aload_n S.1 S.2.1 dX11_item_120 rfl (lv_at hl 0 rfl) ?_
        obtain ⟨r_23, σ_23, e_23, h⟩ := b2s h
        refine mCallI S hK mKSc hKS hA (kX11_takesName e_23) (cwX11_174 S.2.2.2.2 (rm := rmX11_takesName) rfl rfl ⟨Nat.le_of_ble_eq_true rfl, Nat.le_of_ble_eq_true rfl⟩) hB rfl hl.1 rfl (lv_room (Nat.le_of_ble_eq_true rfl)) dX11_item_121 ⟨Nat.zero_le _, Nat.zero_le _⟩ (fun H locs hB => ?_)
        refine lv_if_eq (tgt := 157) S.1 S.2.1 dX11_item_124 (by decide) (fun c_24 => ?_) (fun c_24 => ?_)
        · replace h := (if_pos c_24).symm.trans h
          refine lv_iconst (v := (0 : Int32)) S.1 S.2.1 dX11_item_157 (by decide) ?_
          cases h
          exact gRetZ S.1 S.2.1 hr hlk hB rfl dX11_item_158
        · replace h := (if_neg c_24).symm.trans h
          refine lv_aload_n S.1 S.2.1 dX11_item_127 rfl (lv_at hl 0 rfl) ?_
          refine va_ldcS S.1 S.2.1 S.2.2.2.1 (hKS.2.1 (RX11, 177, "=", 2) (List.mem_of_getElem? (i := 2) rfl)) dX11_item_128 ?_
          obtain ⟨r_25, σ_25, e_25, h⟩ := b2s h
          refine mCallI S hK mKSc hKS hA (kX11_takes e_25) (cwX11_171 S.2.2.2.2 (rm := rmX11_takes) rfl rfl ⟨Nat.le_of_ble_eq_true rfl, Nat.le_of_ble_eq_true rfl⟩) hB rfl hl.1 rfl (lv_room (Nat.le_of_ble_eq_true rfl)) dX11_item_130 ⟨Nat.zero_le _, Nat.zero_le _⟩ (fun H locs hB => ?_)
          refine lv_if_eq (tgt := 157) S.1 S.2.1 dX11_item_133 (by decide) (fun c_26 => ?_) (fun c_26 => ?_)
          · replace h := (if_pos c_26).symm.trans h
            refine lv_iconst (v := (0 : Int32)) S.1 S.2.1 dX11_item_157 (by decide) ?_
            cases h
            exact gRetZ S.1 S.2.1 hr hlk hB rfl dX11_item_158
          · replace h := (if_neg c_26).symm.trans h
            refine lv_aload_n S.1 S.2.1 dX11_item_136 rfl (lv_at hl 0 rfl) ?_
            refine lv_iconst (v := (0 : Int32)) S.1 S.2.1 dX11_item_137 (by decide) ?_
            obtain ⟨r_27, σ_27, e_27, h⟩ := b2s h
            refine mCallI S hK mKSc hKS hA (tSC1_expressionForm e_27) (cwX11_195 S.2.2.2.2 (rm := rtSC1) rfl rfl ⟨Nat.le_of_ble_eq_true rfl, Nat.le_of_ble_eq_true rfl⟩) hB rfl hl.1 rfl (lv_room (Nat.le_of_ble_eq_true rfl)) dX11_item_138 ⟨Nat.zero_le _, Nat.zero_le _⟩ (fun H locs hB => ?_)
            refine lv_if_eq (tgt := 157) S.1 S.2.1 dX11_item_141 (by decide) (fun c_28 => ?_) (fun c_28 => ?_)
            · replace h := (if_pos c_28).symm.trans h
              refine lv_iconst (v := (0 : Int32)) S.1 S.2.1 dX11_item_157 (by decide) ?_
              cases h
              exact gRetZ S.1 S.2.1 hr hlk hB rfl dX11_item_158
            · replace h := (if_neg c_28).symm.trans h
              refine lv_aload_n S.1 S.2.1 dX11_item_144 rfl (lv_at hl 0 rfl) ?_
              refine va_ldcS S.1 S.2.1 S.2.2.2.1 (hKS.2.1 (RX11, 184, ";", 4) (List.mem_of_getElem? (i := 4) rfl)) dX11_item_145 ?_
              obtain ⟨r_29, σ_29, e_29, h⟩ := b2s h
              refine mCallI S hK mKSc hKS hA (kX11_takes e_29) (cwX11_171 S.2.2.2.2 (rm := rmX11_takes) rfl rfl ⟨Nat.le_of_ble_eq_true rfl, Nat.le_of_ble_eq_true rfl⟩) hB rfl hl.1 rfl (lv_room (Nat.le_of_ble_eq_true rfl)) dX11_item_147 ⟨Nat.zero_le _, Nat.zero_le _⟩ (fun H locs hB => ?_)
              refine lv_if_eq (tgt := 157) S.1 S.2.1 dX11_item_150 (by decide) (fun c_30 => ?_) (fun c_30 => ?_)
              · replace h := (if_pos c_30).symm.trans h
                refine lv_iconst (v := (0 : Int32)) S.1 S.2.1 dX11_item_157 (by decide) ?_
                cases h
                exact gRetZ S.1 S.2.1 hr hlk hB rfl dX11_item_158
              · replace h := (if_neg c_30).symm.trans h
                refine lv_iconst (v := (1 : Int32)) S.1 S.2.1 dX11_item_153 (by decide) ?_
                refine lv_goto (tgt := 158) S.1 S.2.1 dX11_item_154 (by decide) ?_
                cases h
                exact gRetZ S.1 S.2.1 hr hlk hB rfl dX11_item_158
    · replace h := (if_neg c_4).symm.trans h
      refine lv_aload_n S.1 S.2.1 dX11_item_72 rfl (lv_at hl 0 rfl) ?_
      obtain ⟨r_31, σ_31, e_31, h⟩ := b2s h
      refine mCallI S hK mKSc hKS hA (kX11_takesName e_31) (cwX11_174 S.2.2.2.2 (rm := rmX11_takesName) rfl rfl ⟨Nat.le_of_ble_eq_true rfl, Nat.le_of_ble_eq_true rfl⟩) hB rfl hl.1 rfl (lv_room (Nat.le_of_ble_eq_true rfl)) dX11_item_73 ⟨Nat.zero_le _, Nat.zero_le _⟩ (fun H locs hB => ?_)
      refine lv_if_eq (tgt := 109) S.1 S.2.1 dX11_item_76 (by decide) (fun c_32 => ?_) (fun c_32 => ?_)
      · replace h := (if_pos c_32).symm.trans h
        refine lv_iconst (v := (0 : Int32)) S.1 S.2.1 dX11_item_109 (by decide) ?_
        cases h
        exact gRetZ S.1 S.2.1 hr hlk hB rfl dX11_item_110
      · replace h := (if_neg c_32).symm.trans h
        refine lv_aload_n S.1 S.2.1 dX11_item_79 rfl (lv_at hl 0 rfl) ?_
        refine va_ldcS S.1 S.2.1 S.2.2.2.1 (hKS.2.1 (RX11, 188, ":=", 6) (List.mem_of_getElem? (i := 6) rfl)) dX11_item_80 ?_
        obtain ⟨r_33, σ_33, e_33, h⟩ := b2s h
        refine mCallI S hK mKSc hKS hA (kX11_takes e_33) (cwX11_171 S.2.2.2.2 (rm := rmX11_takes) rfl rfl ⟨Nat.le_of_ble_eq_true rfl, Nat.le_of_ble_eq_true rfl⟩) hB rfl hl.1 rfl (lv_room (Nat.le_of_ble_eq_true rfl)) dX11_item_82 ⟨Nat.zero_le _, Nat.zero_le _⟩ (fun H locs hB => ?_)
        refine lv_if_eq (tgt := 109) S.1 S.2.1 dX11_item_85 (by decide) (fun c_34 => ?_) (fun c_34 => ?_)
        · replace h := (if_pos c_34).symm.trans h
          refine lv_iconst (v := (0 : Int32)) S.1 S.2.1 dX11_item_109 (by decide) ?_
          cases h
          exact gRetZ S.1 S.2.1 hr hlk hB rfl dX11_item_110
        · replace h := (if_neg c_34).symm.trans h
          refine lv_aload_n S.1 S.2.1 dX11_item_88 rfl (lv_at hl 0 rfl) ?_
          refine lv_iconst (v := (0 : Int32)) S.1 S.2.1 dX11_item_89 (by decide) ?_
          obtain ⟨r_35, σ_35, e_35, h⟩ := b2s h
          refine mCallI S hK mKSc hKS hA (tSC1_formulaForm e_35) (cwX11_190 S.2.2.2.2 (rm := rtSC1) rfl rfl ⟨Nat.le_of_ble_eq_true rfl, Nat.le_of_ble_eq_true rfl⟩) hB rfl hl.1 rfl (lv_room (Nat.le_of_ble_eq_true rfl)) dX11_item_90 ⟨Nat.zero_le _, Nat.zero_le _⟩ (fun H locs hB => ?_)
          refine lv_if_eq (tgt := 109) S.1 S.2.1 dX11_item_93 (by decide) (fun c_36 => ?_) (fun c_36 => ?_)
          · replace h := (if_pos c_36).symm.trans h
            refine lv_iconst (v := (0 : Int32)) S.1 S.2.1 dX11_item_109 (by decide) ?_
            cases h
            exact gRetZ S.1 S.2.1 hr hlk hB rfl dX11_item_110
          · replace h := (if_neg c_36).symm.trans h
            refine lv_aload_n S.1 S.2.1 dX11_item_96 rfl (lv_at hl 0 rfl) ?_
            refine va_ldcS S.1 S.2.1 S.2.2.2.1 (hKS.2.1 (RX11, 184, ";", 4) (List.mem_of_getElem? (i := 4) rfl)) dX11_item_97 ?_
            obtain ⟨r_37, σ_37, e_37, h⟩ := b2s h
            refine mCallI S hK mKSc hKS hA (kX11_takes e_37) (cwX11_171 S.2.2.2.2 (rm := rmX11_takes) rfl rfl ⟨Nat.le_of_ble_eq_true rfl, Nat.le_of_ble_eq_true rfl⟩) hB rfl hl.1 rfl (lv_room (Nat.le_of_ble_eq_true rfl)) dX11_item_99 ⟨Nat.zero_le _, Nat.zero_le _⟩ (fun H locs hB => ?_)
            refine lv_if_eq (tgt := 109) S.1 S.2.1 dX11_item_102 (by decide) (fun c_38 => ?_) (fun c_38 => ?_)
            · replace h := (if_pos c_38).symm.trans h
              refine lv_iconst (v := (0 : Int32)) S.1 S.2.1 dX11_item_109 (by decide) ?_
              cases h
              exact gRetZ S.1 S.2.1 hr hlk hB rfl dX11_item_110
            · replace h := (if_neg c_38).symm.trans h
              refine lv_iconst (v := (1 : Int32)) S.1 S.2.1 dX11_item_105 (by decide) ?_
              refine lv_goto (tgt := 110) S.1 S.2.1 dX11_item_106 (by decide) ?_
              cases h
              exact gRetZ S.1 S.2.1 hr hlk hB rfl dX11_item_110
  · replace h := (if_neg c_2).symm.trans h
    refine lv_aload_n S.1 S.2.1 dX11_item_9 rfl (lv_at hl 0 rfl) ?_
    obtain ⟨r_39, σ_39, e_39, h⟩ := b2s h
    refine mCallI S hK mKSc hKS hA (kX11_takesName e_39) (cwX11_174 S.2.2.2.2 (rm := rmX11_takesName) rfl rfl ⟨Nat.le_of_ble_eq_true rfl, Nat.le_of_ble_eq_true rfl⟩) hB rfl hl.1 rfl (lv_room (Nat.le_of_ble_eq_true rfl)) dX11_item_10 ⟨Nat.zero_le _, Nat.zero_le _⟩ (fun H locs hB => ?_)
    refine lv_if_eq (tgt := 61) S.1 S.2.1 dX11_item_13 (by decide) (fun c_40 => ?_) (fun c_40 => ?_)
    · replace h := (if_pos c_40).symm.trans h
      refine lv_iconst (v := (0 : Int32)) S.1 S.2.1 dX11_item_61 (by decide) ?_
      cases h
      exact gRetZ S.1 S.2.1 hr hlk hB rfl dX11_item_62
    · replace h := (if_neg c_40).symm.trans h
      refine lv_aload_n S.1 S.2.1 dX11_item_16 rfl (lv_at hl 0 rfl) ?_
      refine va_ldcS S.1 S.2.1 S.2.2.2.1 (hKS.2.1 (RX11, 177, "=", 2) (List.mem_of_getElem? (i := 2) rfl)) dX11_item_17 ?_
      obtain ⟨r_41, σ_41, e_41, h⟩ := b2s h
      refine mCallI S hK mKSc hKS hA (kX11_takes e_41) (cwX11_171 S.2.2.2.2 (rm := rmX11_takes) rfl rfl ⟨Nat.le_of_ble_eq_true rfl, Nat.le_of_ble_eq_true rfl⟩) hB rfl hl.1 rfl (lv_room (Nat.le_of_ble_eq_true rfl)) dX11_item_19 ⟨Nat.zero_le _, Nat.zero_le _⟩ (fun H locs hB => ?_)
      refine lv_if_eq (tgt := 61) S.1 S.2.1 dX11_item_22 (by decide) (fun c_42 => ?_) (fun c_42 => ?_)
      · replace h := (if_pos c_42).symm.trans h
        refine lv_iconst (v := (0 : Int32)) S.1 S.2.1 dX11_item_61 (by decide) ?_
        cases h
        exact gRetZ S.1 S.2.1 hr hlk hB rfl dX11_item_62
      · replace h := (if_neg c_42).symm.trans h
        refine lv_aload_n S.1 S.2.1 dX11_item_25 rfl (lv_at hl 0 rfl) ?_
        refine va_ldcS S.1 S.2.1 S.2.2.2.1 (hKS.2.1 (RX11, 179, "-", 3) (List.mem_of_getElem? (i := 3) rfl)) dX11_item_26 ?_
        obtain ⟨r_43, σ_43, e_43, h⟩ := b2s h
        refine mCallI S hK mKSc hKS hA (kX11_sees e_43) (cwX11_155 S.2.2.2.2 (rm := rmX11_sees) rfl rfl ⟨Nat.le_of_ble_eq_true rfl, Nat.le_of_ble_eq_true rfl⟩) hB rfl hl.1 rfl (lv_room (Nat.le_of_ble_eq_true rfl)) dX11_item_28 ⟨Nat.zero_le _, Nat.zero_le _⟩ (fun H locs hB => ?_)
        refine lv_if_eq (tgt := 41) S.1 S.2.1 dX11_item_31 (by decide) (fun c_44 => ?_) (fun c_44 => ?_)
        · replace h := (if_pos c_44).symm.trans h
          exact P41  _ _ _ _ h hB hl
        · replace h := (if_neg c_44).symm.trans h
          refine lv_aload_n S.1 S.2.1 dX11_item_34 rfl (lv_at hl 0 rfl) ?_
          obtain ⟨r_49, σ_49, e_49, h⟩ := b2s h
          refine mCallI S hK mKSc hKS hA (kX11_goes mKSc e_49) (cwX11_159 S.2.2.2.2 (rm := rmX11_goes) rfl rfl ⟨Nat.le_of_ble_eq_true rfl, Nat.le_of_ble_eq_true rfl⟩) hB rfl hl.1 rfl (lv_room (Nat.le_of_ble_eq_true rfl)) dX11_item_35 ⟨Nat.zero_le _, Nat.zero_le _⟩ (fun H locs hB => ?_)
          refine lv_if_eq (tgt := 61) S.1 S.2.1 dX11_item_38 (by decide) (fun c_50 => ?_) (fun c_50 => ?_)
          · replace h := (if_pos c_50).symm.trans h
            refine lv_iconst (v := (0 : Int32)) S.1 S.2.1 dX11_item_61 (by decide) ?_
            cases h
            exact gRetZ S.1 S.2.1 hr hlk hB rfl dX11_item_62
          · replace h := (if_neg c_50).symm.trans h
            exact P41  _ _ _ _ h hB hl
def FX11_program_0 (L : Nat)  : Nat → MS → Option (Int32 × MS)
  | 0, _ => none
  | n+1, σ1 =>
    b2 (FX11_item L σ1) fun r_1 σ_1 =>
    if r_1 = 0 then
      some ((0 : Int32), σ_1)
    else
      if ((σ_1.1 7) < 0 ∨ 1801 ≤ (σ_1.1 7).toNatClampNeg) then none else
      if (σ_1.2.1 4 (σ_1.1 7).toNatClampNeg) = 0 then
        some ((1 : Int32), σ_1)
      else
        (FX11_program_0 L n) σ_1
def FX11_program (L : Nat)  (σ : MS) : Option (Int32 × MS) :=
  FX11_program_0 L L σ
abbrev rmX11_program : Room := { frames := 722, cells := 0, slots := 0, locals := 28441 }
set_option maxRecDepth 100000 in
set_option maxHeartbeats 4000000 in
theorem kX11_program {l : Launch} {D : va_G} {cI cJ : ClassId} {ad : Nat → Nat} {adK adV tK : Nat → Nat} {L : Nat}  {σ σ' : MS} {r : Int32} (h : FX11_program L  σ = some (r, σ')) : gMet l yX11_program qX11_program rmX11_program 0 0 D vwCl [(cI, .int), (cJ, .long)] (mKS adK adV tK) [.ref (ad 0)] (MW cI cJ ad σ) (MW cI cJ ad σ') (some (.int r)) := by
  refine gMet.of (cc := cX11_program) (maxL := 1) (ret := (some .boolean)) (by decide) rfl (Nat.le_of_ble_eq_true rfl) ?_
  intro p e s m args below meth c S hr hlk hnm hK hKS hA hB ls hl
  have hl : lv_has ls 1 [(0, .ref (ad 0))] := hl
  replace S : CallFix p m c cX11_program 1 s args (_ :: wsL_law) RX11 := S
  rw [FX11_program] at h
  have P0 : ∀  (n : Nat), ∀  (σ1 : MS) (H : Heap) (locs : List Loc) (ls : Array Slot), FX11_program_0 L n  σ1 = some (r, σ') → gB D vwCl (va_A (MW cI cJ ad σ) s.heap.size) s.heap (MW cI cJ ad σ1) [] H locs → lv_has ls 1 [(0, .ref (ad 0))] → W p l e rmX11_program s m args below meth c H locs 0 0 (MQ below (gQ D vwCl (MW cI cJ ad σ) (MW cI cJ ad σ') (some (.int r)) s.heap.size) args s 0 0 (va_A (MW cI cJ ad σ) s.heap.size)) (F0 m 0 ls []) := by
    intro n
    induction n with
    | zero => intro  σ1 H locs ls h; simp only [FX11_program_0] at h; cases h
    | succ n ih =>
      intro  σ1 H locs ls h hB hl
      rw [FX11_program_0] at h
      refine lv_aload_n S.1 S.2.1 dX11_program_0 rfl (lv_at hl 0 rfl) ?_
      obtain ⟨r_1, σ_1, e_1, h⟩ := b2s h
      refine mCallI S hK mKSc hKS hA (kX11_item e_1) (cwX11_166 S.2.2.2.2 (rm := rmX11_item) rfl rfl ⟨Nat.le_of_ble_eq_true rfl, Nat.le_of_ble_eq_true rfl⟩) hB rfl hl.1 rfl (lv_room (Nat.le_of_ble_eq_true rfl)) dX11_program_1 ⟨Nat.zero_le _, Nat.zero_le _⟩ (fun H locs hB => ?_)
      refine lv_if_ne (tgt := 9) S.1 S.2.1 dX11_program_4 (by decide) (fun c_2 => ?_) (fun c_2 => ?_)
      · replace h := (if_neg c_2).symm.trans h
        refine lv_aload_n S.1 S.2.1 dX11_program_9 rfl (lv_at hl 0 rfl) ?_
        refine mg_kinds S hK hB wf_X11_17 dX11_program_10 ?_
        refine lv_aload_n S.1 S.2.1 dX11_program_13 rfl (lv_at hl 0 rfl) ?_
        refine mg_at S hK hB wf_X11_152 rfl dX11_program_14 ?_
        obtain ⟨b_3, h⟩ := gd h
        refine ml_kinds (v := (σ_1.2.1 4 (σ_1.1 7).toNatClampNeg)) S hK hB b_3 rfl dX11_program_17 ?_
        refine lv_if_ne (tgt := 0) S.1 S.2.1 dX11_program_18 (by decide) (fun c_4 => ?_) (fun c_4 => ?_)
        · replace h := (if_neg c_4).symm.trans h
          exact ih _ _ _ _ h hB hl
        · replace h := (if_pos c_4).symm.trans h
          refine lv_iconst (v := (1 : Int32)) S.1 S.2.1 dX11_program_21 (by decide) ?_
          cases h
          exact gRetZ S.1 S.2.1 hr hlk hB rfl dX11_program_22
      · replace h := (if_pos c_2).symm.trans h
        refine lv_iconst (v := (0 : Int32)) S.1 S.2.1 dX11_program_7 (by decide) ?_
        cases h
        exact gRetZ S.1 S.2.1 hr hlk hB rfl dX11_program_8
  exact P0  L _ _ _ _ h hB hl
