/-- what the law sees of it: a number of the throw, 0: none -/
def cdL_feed : Nat ⊕ Int32 → Option Int32
  | .inr _ => some 0
  | .inl 0 => some 1
  | .inl _ => none
def otL_feed (f : Nat → Int64) : Nat ⊕ Int32 → (Nat → Int64)
  | .inr v => vp_updL f 0 v.toInt64
  | .inl _ => f
abbrev rmL_feed : Room := { frames := 7, cells := 1, slots := 6, locals := 107 }
def qL_feed : List Cond := .codeWith yL_feed cL_feed 8 (some .int) [(0, 16, 19, 13)] :: wsL_law
set_option maxRecDepth 100000 in
set_option maxHeartbeats 4000000 in
theorem kL_feed {l : Launch} {D : va_G} {cI cJ cQ : ClassId} {ad : Nat → Nat} {ra : Nat → Nat → Nat} {adK adV tK : Nat → Nat} {ob : Nat} {f : Nat → Int64} {L : Nat} {p0 : Int32} {p1 : Int32} {p2 : Int32} {p3 : Int32} {p4 : Int32} {σ σ' : CS} {o : Nat ⊕ Int32} {r : Int32} (hl9 : l.stackTraces = false) (h : FX10_feed L p0 p1 p2 p3 p4 σ = some (o, σ')) (hcd : cdL_feed o = some r) : gMet l yL_feed qL_feed rmL_feed 1 6 D vwCl [(cI, .int), (cJ, .long), (cQ, .array .long)] (wKS adK adV tK) [.ref (ad 0), .int p0, .int p1, .int p2, .int p3, .int p4, .ref ob] (CW cI cJ cQ ad ra σ ++ [(ob, .inl (cJ, 1, .inr (.inl f)))]) (CW cI cJ cQ ad ra σ' ++ [(ob, .inl (cJ, 1, .inr (.inl (otL_feed f o))))]) (some (.int r)) := by
  refine gMetH.of (cc := cL_feed) (maxL := 8) (ret := some .int) (hh := [(0, 16, 19, 13)]) (by decide) rfl (Nat.le_of_ble_eq_true rfl) ?_
  intro p e s m args below meth c S hr hlk htab hK hKS hA hB ls hl
  have hl : lv_has ls 8 [(0, .ref (ad 0)), (1, .int p0), (2, .int p1), (3, .int p2), (4, .int p3), (5, .int p4), (6, .ref ob)] := hl
  replace S : CallFix p m c cL_feed 8 s args (_ :: wsL_law) RL := S
  replace hB : gB D vwCl _ _ (CW cI cJ cQ ad ra σ) [(ob, .inl (cJ, 1, .inr (.inl f)))] _ _ := gEq hB (List.append_nil _)
  have hK3 := hK
  refine lv_aload S.1 S.2.1 dL_feed_0 (lv_at hl 6 rfl) ?_
  refine lv_iconst (v := 0) S.1 S.2.1 dL_feed_2 (by decide) ?_
  refine lv_aload_n S.1 S.2.1 dL_feed_3 rfl (lv_at hl 0 rfl) ?_
  refine lv_iload_n S.1 S.2.1 dL_feed_4 rfl (lv_at hl 1 rfl) ?_
  refine lv_iload_n S.1 S.2.1 dL_feed_5 rfl (lv_at hl 2 rfl) ?_
  refine lv_iload_n S.1 S.2.1 dL_feed_6 rfl (lv_at hl 3 rfl) ?_
  refine lv_iload S.1 S.2.1 dL_feed_7 (lv_at hl 4 rfl) ?_
  refine lv_iload S.1 S.2.1 dL_feed_9 (lv_at hl 5 rfl) ?_
  refine gCallX (ci := 10) S hK3 wKSc hKS hA (gMetX.weak (kX10_feed hl9 h) (fun _ _ q => q.1.1)) (cwL_7 S.2.2.2.2 (rm := rmX10_feed) rfl rfl ⟨(Nat.le_of_ble_eq_true rfl), (Nat.le_of_ble_eq_true rfl)⟩) hB 0 rfl rfl rfl hl.1 rfl (lv_room (Nat.le_of_ble_eq_true rfl)) dL_feed_11 ⟨(Nat.le_of_ble_eq_true rfl), (Nat.le_of_ble_eq_true rfl)⟩ (fun v H locs ho hB => ?_) (fun k q ce H locs ho hB hce hcv hcl => ?_)
  · obtain ⟨u, rfl⟩ : ∃ u, o = .inr u := by
      cases o with
    | inl k => cases ho
    | inr u => exact ⟨u, rfl⟩
    cases ho
    cases hcd
    refine lv_i2l (v := u.toInt64) S.1 S.2.1 dL_feed_14 rfl ?_
    refine gLast0 S hK rfl hB dL_feed_15 (fun H locs hB => ?_)
    refine lv_goto (tgt := 23) S.1 S.2.1 dL_feed_16 (by decide) ?_
    refine lv_iconst (v := 0) S.1 S.2.1 dL_feed_23 (by decide) ?_
    exact vx_retF (Nat.le_of_ble_eq_true rfl) (Nat.le_of_ble_eq_true rfl) (gRetI S.1 S.2.1 hr hlk hB dL_feed_24)
  · obtain ⟨k2, rfl⟩ : ∃ k2, o = .inl k2 := by
      cases o with
    | inr u => cases ho
    | inl k => exact ⟨k, rfl⟩
    cases ho
    by_cases e0 : k2 = 0
    · subst e0
      cases hcd
      refine vx_catch (name := exN 0) S.2.2.2.1 [] (⟨0, 16, 19, 13⟩ : ExceptionTableEntry) [] (htab.trans rfl) (fun z hz => nomatch hz) rfl (by decide) (S.2.2.2.2 _ (List.mem_cons_of_mem _ wl_L_13)) (va_Nw.use rfl (hKS.1.1.2.2.1 0 (by decide))) hce hcv hcl ?_
      refine lv_astore (lv' := [(7, .ref q), (0, .ref (ad 0)), (1, .int p0), (2, .int p1), (3, .int p2), (4, .int p3), (5, .int p4), (6, .ref ob)]) S.1 S.2.1 dL_feed_19 hl (by decide) rfl (fun ls hl => ?_)
      refine lv_iconst (v := 1) S.1 S.2.1 dL_feed_21 (by decide) ?_
      exact vx_retF (Nat.le_of_ble_eq_true rfl) (Nat.le_of_ble_eq_true rfl) (gRetI S.1 S.2.1 hr hlk (gEq hB (List.append_nil _).symm) dL_feed_22)
    · exfalso
      unfold cdL_feed at hcd
      split at hcd <;> simp_all
/-- what the law sees of it: a number of the throw, 0: none -/
def cdL_trim : Nat ⊕ Int32 → Option Int32
  | .inr _ => some 0
  | .inl 1 => some 1
  | .inl _ => none
def otL_trim (f : Nat → Int64) : Nat ⊕ Int32 → (Nat → Int64)
  | .inr v => vp_updL f 0 v.toInt64
  | .inl _ => f
abbrev rmL_trim : Room := { frames := 7, cells := 1, slots := 6, locals := 103 }
def qL_trim : List Cond := .codeWith yL_trim cL_trim 4 (some .int) [(0, 9, 12, 19)] :: wsL_law
set_option maxRecDepth 100000 in
set_option maxHeartbeats 4000000 in
theorem kL_trim {l : Launch} {D : va_G} {cI cJ cQ : ClassId} {ad : Nat → Nat} {ra : Nat → Nat → Nat} {adK adV tK : Nat → Nat} {ob : Nat} {f : Nat → Int64} {p0 : Int32} {σ σ' : CS} {o : Nat ⊕ Int32} {r : Int32} (hl9 : l.stackTraces = false) (h : FX10_trim p0 σ = some (o, σ')) (hcd : cdL_trim o = some r) : gMet l yL_trim qL_trim rmL_trim 1 6 D vwCl [(cI, .int), (cJ, .long), (cQ, .array .long)] (wKS adK adV tK) [.ref (ad 0), .int p0, .ref ob] (CW cI cJ cQ ad ra σ ++ [(ob, .inl (cJ, 1, .inr (.inl f)))]) (CW cI cJ cQ ad ra σ' ++ [(ob, .inl (cJ, 1, .inr (.inl (otL_trim f o))))]) (some (.int r)) := by
  refine gMetH.of (cc := cL_trim) (maxL := 4) (ret := some .int) (hh := [(0, 9, 12, 19)]) (by decide) rfl (Nat.le_of_ble_eq_true rfl) ?_
  intro p e s m args below meth c S hr hlk htab hK hKS hA hB ls hl
  have hl : lv_has ls 4 [(0, .ref (ad 0)), (1, .int p0), (2, .ref ob)] := hl
  replace S : CallFix p m c cL_trim 4 s args (_ :: wsL_law) RL := S
  replace hB : gB D vwCl _ _ (CW cI cJ cQ ad ra σ) [(ob, .inl (cJ, 1, .inr (.inl f)))] _ _ := gEq hB (List.append_nil _)
  have hK3 := hK
  refine lv_aload_n S.1 S.2.1 dL_trim_0 rfl (lv_at hl 2 rfl) ?_
  refine lv_iconst (v := 0) S.1 S.2.1 dL_trim_1 (by decide) ?_
  refine lv_aload_n S.1 S.2.1 dL_trim_2 rfl (lv_at hl 0 rfl) ?_
  refine lv_iload_n S.1 S.2.1 dL_trim_3 rfl (lv_at hl 1 rfl) ?_
  refine gCallX (ci := 10) S hK3 wKSc hKS hA (gMetX.weak (kX10_trim hl9 h) (fun _ _ q => q.1.1)) (cwL_15 S.2.2.2.2 (rm := rmX10_trim) rfl rfl ⟨(Nat.le_of_ble_eq_true rfl), (Nat.le_of_ble_eq_true rfl)⟩) hB 0 rfl rfl rfl hl.1 rfl (lv_room (Nat.le_of_ble_eq_true rfl)) dL_trim_4 ⟨(Nat.le_of_ble_eq_true rfl), (Nat.le_of_ble_eq_true rfl)⟩ (fun v H locs ho hB => ?_) (fun k q ce H locs ho hB hce hcv hcl => ?_)
  · obtain ⟨u, rfl⟩ : ∃ u, o = .inr u := by
      cases o with
    | inl k => cases ho
    | inr u => exact ⟨u, rfl⟩
    cases ho
    cases hcd
    refine lv_i2l (v := u.toInt64) S.1 S.2.1 dL_trim_7 rfl ?_
    refine gLast0 S hK rfl hB dL_trim_8 (fun H locs hB => ?_)
    refine lv_goto (tgt := 15) S.1 S.2.1 dL_trim_9 (by decide) ?_
    refine lv_iconst (v := 0) S.1 S.2.1 dL_trim_15 (by decide) ?_
    exact vx_retF (Nat.le_of_ble_eq_true rfl) (Nat.le_of_ble_eq_true rfl) (gRetI S.1 S.2.1 hr hlk hB dL_trim_16)
  · obtain ⟨k2, rfl⟩ : ∃ k2, o = .inl k2 := by
      cases o with
    | inr u => cases ho
    | inl k => exact ⟨k, rfl⟩
    cases ho
    by_cases e1 : k2 = 1
    · subst e1
      cases hcd
      refine vx_catch (name := exN 1) S.2.2.2.1 [] (⟨0, 9, 12, 19⟩ : ExceptionTableEntry) [] (htab.trans rfl) (fun z hz => nomatch hz) rfl (by decide) (S.2.2.2.2 _ (List.mem_cons_of_mem _ wl_L_19)) (va_Nw.use rfl (hKS.1.1.2.2.1 1 (by decide))) hce hcv hcl ?_
      refine lv_astore_n (lv' := [(3, .ref q), (0, .ref (ad 0)), (1, .int p0), (2, .ref ob)]) S.1 S.2.1 dL_trim_12 rfl hl (by decide) rfl (fun ls hl => ?_)
      refine lv_iconst (v := 1) S.1 S.2.1 dL_trim_13 (by decide) ?_
      exact vx_retF (Nat.le_of_ble_eq_true rfl) (Nat.le_of_ble_eq_true rfl) (gRetI S.1 S.2.1 hr hlk (gEq hB (List.append_nil _).symm) dL_trim_14)
    · exfalso
      unfold cdL_trim at hcd
      split at hcd <;> simp_all
/-- what the law sees of it: a number of the throw, 0: none -/
def cdL_count : Nat ⊕ Int32 → Option Int32
  | .inr _ => some 0
  | .inl 2 => some 1
  | .inl _ => none
def otL_count (f : Nat → Int64) : Nat ⊕ Int32 → (Nat → Int64)
  | .inr v => vp_updL f 0 v.toInt64
  | .inl _ => f
abbrev rmL_count : Room := { frames := 7, cells := 1, slots := 6, locals := 103 }
def qL_count : List Cond := .codeWith yL_count cL_count 4 (some .int) [(0, 9, 12, 24)] :: wsL_law
set_option maxRecDepth 100000 in
set_option maxHeartbeats 4000000 in
theorem kL_count {l : Launch} {D : va_G} {cI cJ cQ : ClassId} {ad : Nat → Nat} {ra : Nat → Nat → Nat} {adK adV tK : Nat → Nat} {ob : Nat} {f : Nat → Int64} {p0 : Int32} {σ σ' : CS} {o : Nat ⊕ Int32} {r : Int32} (hl9 : l.stackTraces = false) (h : FX10_count p0 σ = some (o, σ')) (hcd : cdL_count o = some r) : gMet l yL_count qL_count rmL_count 1 6 D vwCl [(cI, .int), (cJ, .long), (cQ, .array .long)] (wKS adK adV tK) [.ref (ad 0), .int p0, .ref ob] (CW cI cJ cQ ad ra σ ++ [(ob, .inl (cJ, 1, .inr (.inl f)))]) (CW cI cJ cQ ad ra σ' ++ [(ob, .inl (cJ, 1, .inr (.inl (otL_count f o))))]) (some (.int r)) := by
  refine gMetH.of (cc := cL_count) (maxL := 4) (ret := some .int) (hh := [(0, 9, 12, 24)]) (by decide) rfl (Nat.le_of_ble_eq_true rfl) ?_
  intro p e s m args below meth c S hr hlk htab hK hKS hA hB ls hl
  have hl : lv_has ls 4 [(0, .ref (ad 0)), (1, .int p0), (2, .ref ob)] := hl
  replace S : CallFix p m c cL_count 4 s args (_ :: wsL_law) RL := S
  replace hB : gB D vwCl _ _ (CW cI cJ cQ ad ra σ) [(ob, .inl (cJ, 1, .inr (.inl f)))] _ _ := gEq hB (List.append_nil _)
  have hK3 := hK
  refine lv_aload_n S.1 S.2.1 dL_count_0 rfl (lv_at hl 2 rfl) ?_
  refine lv_iconst (v := 0) S.1 S.2.1 dL_count_1 (by decide) ?_
  refine lv_aload_n S.1 S.2.1 dL_count_2 rfl (lv_at hl 0 rfl) ?_
  refine lv_iload_n S.1 S.2.1 dL_count_3 rfl (lv_at hl 1 rfl) ?_
  refine gCallX (ci := 10) S hK3 wKSc hKS hA (gMetX.weak (kX10_count hl9 h) (fun _ _ q => q.1.1)) (cwL_21 S.2.2.2.2 (rm := rmX10_count) rfl rfl ⟨(Nat.le_of_ble_eq_true rfl), (Nat.le_of_ble_eq_true rfl)⟩) hB 0 rfl rfl rfl hl.1 rfl (lv_room (Nat.le_of_ble_eq_true rfl)) dL_count_4 ⟨(Nat.le_of_ble_eq_true rfl), (Nat.le_of_ble_eq_true rfl)⟩ (fun v H locs ho hB => ?_) (fun k q ce H locs ho hB hce hcv hcl => ?_)
  · obtain ⟨u, rfl⟩ : ∃ u, o = .inr u := by
      cases o with
    | inl k => cases ho
    | inr u => exact ⟨u, rfl⟩
    cases ho
    cases hcd
    refine lv_i2l (v := u.toInt64) S.1 S.2.1 dL_count_7 rfl ?_
    refine gLast0 S hK rfl hB dL_count_8 (fun H locs hB => ?_)
    refine lv_goto (tgt := 15) S.1 S.2.1 dL_count_9 (by decide) ?_
    refine lv_iconst (v := 0) S.1 S.2.1 dL_count_15 (by decide) ?_
    exact vx_retF (Nat.le_of_ble_eq_true rfl) (Nat.le_of_ble_eq_true rfl) (gRetI S.1 S.2.1 hr hlk hB dL_count_16)
  · obtain ⟨k2, rfl⟩ : ∃ k2, o = .inl k2 := by
      cases o with
    | inr u => cases ho
    | inl k => exact ⟨k, rfl⟩
    cases ho
    by_cases e2 : k2 = 2
    · subst e2
      cases hcd
      refine vx_catch (name := exN 2) S.2.2.2.1 [] (⟨0, 9, 12, 24⟩ : ExceptionTableEntry) [] (htab.trans rfl) (fun z hz => nomatch hz) rfl (by decide) (S.2.2.2.2 _ (List.mem_cons_of_mem _ wl_L_24)) (va_Nw.use rfl (hKS.1.1.2.2.1 2 (by decide))) hce hcv hcl ?_
      refine lv_astore_n (lv' := [(3, .ref q), (0, .ref (ad 0)), (1, .int p0), (2, .ref ob)]) S.1 S.2.1 dL_count_12 rfl hl (by decide) rfl (fun ls hl => ?_)
      refine lv_iconst (v := 1) S.1 S.2.1 dL_count_13 (by decide) ?_
      exact vx_retF (Nat.le_of_ble_eq_true rfl) (Nat.le_of_ble_eq_true rfl) (gRetI S.1 S.2.1 hr hlk (gEq hB (List.append_nil _).symm) dL_count_14)
    · exfalso
      unfold cdL_count at hcd
      split at hcd <;> simp_all
/-- what the law sees of it: a number of the throw, 0: none -/
def cdL_set : Nat ⊕ Int64 → Option Int32
  | .inr _ => some 0
  | .inl 2 => some 1
  | .inl _ => none
def otL_set (f : Nat → Int64) : Nat ⊕ Int64 → (Nat → Int64)
  | .inr v => vp_updL f 0 v
  | .inl _ => f
abbrev rmL_set : Room := { frames := 7, cells := 1, slots := 6, locals := 107 }
def qL_set : List Cond := .codeWith yL_set cL_set 6 (some .int) [(0, 10, 13, 24)] :: wsL_law
set_option maxRecDepth 100000 in
set_option maxHeartbeats 4000000 in
theorem kL_set {l : Launch} {D : va_G} {cI cJ cQ : ClassId} {ad : Nat → Nat} {ra : Nat → Nat → Nat} {adK adV tK : Nat → Nat} {ob : Nat} {f : Nat → Int64} {p0 : Int32} {p1 : Int64} {σ σ' : CS} {o : Nat ⊕ Int64} {r : Int32} (hl9 : l.stackTraces = false) (h : FX10_set p0 p1 σ = some (o, σ')) (hcd : cdL_set o = some r) : gMet l yL_set qL_set rmL_set 1 6 D vwCl [(cI, .int), (cJ, .long), (cQ, .array .long)] (wKS adK adV tK) [.ref (ad 0), .int p0, .long p1, .ref ob] (CW cI cJ cQ ad ra σ ++ [(ob, .inl (cJ, 1, .inr (.inl f)))]) (CW cI cJ cQ ad ra σ' ++ [(ob, .inl (cJ, 1, .inr (.inl (otL_set f o))))]) (some (.int r)) := by
  refine gMetH.of (cc := cL_set) (maxL := 6) (ret := some .int) (hh := [(0, 10, 13, 24)]) (by decide) rfl (Nat.le_of_ble_eq_true rfl) ?_
  intro p e s m args below meth c S hr hlk htab hK hKS hA hB ls hl
  have hl : lv_has ls 6 [(0, .ref (ad 0)), (1, .int p0), (2, .long p1), (4, .ref ob)] := hl
  replace S : CallFix p m c cL_set 6 s args (_ :: wsL_law) RL := S
  replace hB : gB D vwCl _ _ (CW cI cJ cQ ad ra σ) [(ob, .inl (cJ, 1, .inr (.inl f)))] _ _ := gEq hB (List.append_nil _)
  have hK3 := hK
  refine lv_aload S.1 S.2.1 dL_set_0 (lv_at hl 3 rfl) ?_
  refine lv_iconst (v := 0) S.1 S.2.1 dL_set_2 (by decide) ?_
  refine lv_aload_n S.1 S.2.1 dL_set_3 rfl (lv_at hl 0 rfl) ?_
  refine lv_iload_n S.1 S.2.1 dL_set_4 rfl (lv_at hl 1 rfl) ?_
  refine lv_lload_n S.1 S.2.1 dL_set_5 rfl (lv_at hl 2 rfl) ?_
  refine gCallX (ci := 10) S hK3 wKSc hKS hA (gMetX.weak (kX10_set hl9 h) (fun _ _ q => q.1.1)) (cwL_26 S.2.2.2.2 (rm := rmX10_set) rfl rfl ⟨(Nat.le_of_ble_eq_true rfl), (Nat.le_of_ble_eq_true rfl)⟩) hB 0 rfl rfl rfl hl.1 rfl (lv_room (Nat.le_of_ble_eq_true rfl)) dL_set_6 ⟨(Nat.le_of_ble_eq_true rfl), (Nat.le_of_ble_eq_true rfl)⟩ (fun v H locs ho hB => ?_) (fun k q ce H locs ho hB hce hcv hcl => ?_)
  · obtain ⟨u, rfl⟩ : ∃ u, o = .inr u := by
      cases o with
    | inl k => cases ho
    | inr u => exact ⟨u, rfl⟩
    cases ho
    cases hcd
    refine gLast0 S hK rfl hB dL_set_9 (fun H locs hB => ?_)
    refine lv_goto (tgt := 17) S.1 S.2.1 dL_set_10 (by decide) ?_
    refine lv_iconst (v := 0) S.1 S.2.1 dL_set_17 (by decide) ?_
    exact vx_retF (Nat.le_of_ble_eq_true rfl) (Nat.le_of_ble_eq_true rfl) (gRetI S.1 S.2.1 hr hlk hB dL_set_18)
  · obtain ⟨k2, rfl⟩ : ∃ k2, o = .inl k2 := by
      cases o with
    | inr u => cases ho
    | inl k => exact ⟨k, rfl⟩
    cases ho
    by_cases e2 : k2 = 2
    · subst e2
      cases hcd
      refine vx_catch (name := exN 2) S.2.2.2.1 [] (⟨0, 10, 13, 24⟩ : ExceptionTableEntry) [] (htab.trans rfl) (fun z hz => nomatch hz) rfl (by decide) (S.2.2.2.2 _ (List.mem_cons_of_mem _ wl_L_24)) (va_Nw.use rfl (hKS.1.1.2.2.1 2 (by decide))) hce hcv hcl ?_
      refine lv_astore (lv' := [(5, .ref q), (0, .ref (ad 0)), (1, .int p0), (2, .long p1), (4, .ref ob)]) S.1 S.2.1 dL_set_13 hl (by decide) rfl (fun ls hl => ?_)
      refine lv_iconst (v := 1) S.1 S.2.1 dL_set_15 (by decide) ?_
      exact vx_retF (Nat.le_of_ble_eq_true rfl) (Nat.le_of_ble_eq_true rfl) (gRetI S.1 S.2.1 hr hlk (gEq hB (List.append_nil _).symm) dL_set_16)
    · exfalso
      unfold cdL_set at hcd
      split at hcd <;> simp_all
/-- what the law sees of it: a number of the throw, 0: none -/
def cdL_tick : Nat ⊕ Int32 → Option Int32
  | .inr _ => some 0
  | .inl 0 => some 2
  | .inl 1 => some 1
  | .inl _ => none
def otL_tick (f : Nat → Int64) : Nat ⊕ Int32 → (Nat → Int64)
  | .inr v => vp_updL f 0 v.toInt64
  | .inl _ => f
abbrev rmL_tick : Room := { frames := 8, cells := 1, slots := 6, locals := 188 }
def qL_tick : List Cond := .codeWith yL_tick cL_tick 4 (some .int) [(0, 9, 12, 19), (0, 9, 15, 13)] :: wsL_law
set_option maxRecDepth 100000 in
set_option maxHeartbeats 4000000 in
theorem kL_tick {l : Launch} {D : va_G} {cI cJ cQ : ClassId} {ad : Nat → Nat} {ra : Nat → Nat → Nat} {adK adV tK : Nat → Nat} {ob : Nat} {f : Nat → Int64} {L : Nat} {p0 : Int32} {σ σ' : CS} {o : Nat ⊕ Int32} {r : Int32} (hl9 : l.stackTraces = false) (h : FX10_tick L p0 σ = some (o, σ')) (hcd : cdL_tick o = some r) : gMet l yL_tick qL_tick rmL_tick 1 6 D vwCl [(cI, .int), (cJ, .long), (cQ, .array .long)] (wKS adK adV tK) [.ref (ad 0), .int p0, .ref ob] (CW cI cJ cQ ad ra σ ++ [(ob, .inl (cJ, 1, .inr (.inl f)))]) (CW cI cJ cQ ad ra σ' ++ [(ob, .inl (cJ, 1, .inr (.inl (otL_tick f o))))]) (some (.int r)) := by
  refine gMetH.of (cc := cL_tick) (maxL := 4) (ret := some .int) (hh := [(0, 9, 12, 19), (0, 9, 15, 13)]) (by decide) rfl (Nat.le_of_ble_eq_true rfl) ?_
  intro p e s m args below meth c S hr hlk htab hK hKS hA hB ls hl
  have hl : lv_has ls 4 [(0, .ref (ad 0)), (1, .int p0), (2, .ref ob)] := hl
  replace S : CallFix p m c cL_tick 4 s args (_ :: wsL_law) RL := S
  replace hB : gB D vwCl _ _ (CW cI cJ cQ ad ra σ) [(ob, .inl (cJ, 1, .inr (.inl f)))] _ _ := gEq hB (List.append_nil _)
  have hK3 := hK
  refine lv_aload_n S.1 S.2.1 dL_tick_0 rfl (lv_at hl 2 rfl) ?_
  refine lv_iconst (v := 0) S.1 S.2.1 dL_tick_1 (by decide) ?_
  refine lv_aload_n S.1 S.2.1 dL_tick_2 rfl (lv_at hl 0 rfl) ?_
  refine lv_iload_n S.1 S.2.1 dL_tick_3 rfl (lv_at hl 1 rfl) ?_
  refine gCallX (ci := 10) S hK3 wKSc hKS hA (gMetX.weak (kX10_tick hl9 h) (fun _ _ q => q.1.1)) (cwL_30 S.2.2.2.2 (rm := rmX10_tick) rfl rfl ⟨(Nat.le_of_ble_eq_true rfl), (Nat.le_of_ble_eq_true rfl)⟩) hB 0 rfl rfl rfl hl.1 rfl (lv_room (Nat.le_of_ble_eq_true rfl)) dL_tick_4 ⟨(Nat.le_of_ble_eq_true rfl), (Nat.le_of_ble_eq_true rfl)⟩ (fun v H locs ho hB => ?_) (fun k q ce H locs ho hB hce hcv hcl => ?_)
  · obtain ⟨u, rfl⟩ : ∃ u, o = .inr u := by
      cases o with
    | inl k => cases ho
    | inr u => exact ⟨u, rfl⟩
    cases ho
    cases hcd
    refine lv_i2l (v := u.toInt64) S.1 S.2.1 dL_tick_7 rfl ?_
    refine gLast0 S hK rfl hB dL_tick_8 (fun H locs hB => ?_)
    refine lv_goto (tgt := 18) S.1 S.2.1 dL_tick_9 (by decide) ?_
    refine lv_iconst (v := 0) S.1 S.2.1 dL_tick_18 (by decide) ?_
    exact vx_retF (Nat.le_of_ble_eq_true rfl) (Nat.le_of_ble_eq_true rfl) (gRetI S.1 S.2.1 hr hlk hB dL_tick_19)
  · obtain ⟨k2, rfl⟩ : ∃ k2, o = .inl k2 := by
      cases o with
    | inr u => cases ho
    | inl k => exact ⟨k, rfl⟩
    cases ho
    by_cases e0 : k2 = 0
    · subst e0
      cases hcd
      refine vx_catch (name := exN 0) S.2.2.2.1 [(⟨0, 9, 12, 19⟩ : ExceptionTableEntry)] (⟨0, 9, 15, 13⟩ : ExceptionTableEntry) [] (htab.trans rfl) (fun z hz => by
      cases List.mem_singleton.mp hz
      exact Or.inr ⟨by decide, exN 1, (S.2.2.2.2 _ (List.mem_cons_of_mem _ wl_L_19)), hKS.2.1⟩) rfl (by decide) (S.2.2.2.2 _ (List.mem_cons_of_mem _ wl_L_13)) (va_Nw.use rfl (hKS.1.1.2.2.1 0 (by decide))) hce hcv hcl ?_
      refine lv_astore_n (lv' := [(3, .ref q), (0, .ref (ad 0)), (1, .int p0), (2, .ref ob)]) S.1 S.2.1 dL_tick_15 rfl hl (by decide) rfl (fun ls hl => ?_)
      refine lv_iconst (v := 2) S.1 S.2.1 dL_tick_16 (by decide) ?_
      exact vx_retF (Nat.le_of_ble_eq_true rfl) (Nat.le_of_ble_eq_true rfl) (gRetI S.1 S.2.1 hr hlk (gEq hB (List.append_nil _).symm) dL_tick_17)
    · by_cases e1 : k2 = 1
      · subst e1
        cases hcd
        refine vx_catch (name := exN 1) S.2.2.2.1 [] (⟨0, 9, 12, 19⟩ : ExceptionTableEntry) [(⟨0, 9, 15, 13⟩ : ExceptionTableEntry)] (htab.trans rfl) (fun z hz => nomatch hz) rfl (by decide) (S.2.2.2.2 _ (List.mem_cons_of_mem _ wl_L_19)) (va_Nw.use rfl (hKS.1.1.2.2.1 1 (by decide))) hce hcv hcl ?_
        refine lv_astore_n (lv' := [(3, .ref q), (0, .ref (ad 0)), (1, .int p0), (2, .ref ob)]) S.1 S.2.1 dL_tick_12 rfl hl (by decide) rfl (fun ls hl => ?_)
        refine lv_iconst (v := 1) S.1 S.2.1 dL_tick_13 (by decide) ?_
        exact vx_retF (Nat.le_of_ble_eq_true rfl) (Nat.le_of_ble_eq_true rfl) (gRetI S.1 S.2.1 hr hlk (gEq hB (List.append_nil _).symm) dL_tick_14)
      · exfalso
        unfold cdL_tick at hcd
        split at hcd <;> simp_all
/-- what the law sees of it: a number of the throw, 0: none -/
def cdL_back : Nat ⊕ Int32 → Option Int32
  | .inr _ => some 0
  | .inl 1 => some 1
  | .inl _ => none
def otL_back (f : Nat → Int64) : Nat ⊕ Int32 → (Nat → Int64)
  | .inr v => vp_updL f 0 v.toInt64
  | .inl _ => f
abbrev rmL_back : Room := { frames := 7, cells := 1, slots := 6, locals := 103 }
def qL_back : List Cond := .codeWith yL_back cL_back 4 (some .int) [(0, 9, 12, 19)] :: wsL_law
set_option maxRecDepth 100000 in
set_option maxHeartbeats 4000000 in
theorem kL_back {l : Launch} {D : va_G} {cI cJ cQ : ClassId} {ad : Nat → Nat} {ra : Nat → Nat → Nat} {adK adV tK : Nat → Nat} {ob : Nat} {f : Nat → Int64} {p0 : Int32} {σ σ' : CS} {o : Nat ⊕ Int32} {r : Int32} (hl9 : l.stackTraces = false) (h : FX10_back p0 σ = some (o, σ')) (hcd : cdL_back o = some r) : gMet l yL_back qL_back rmL_back 1 6 D vwCl [(cI, .int), (cJ, .long), (cQ, .array .long)] (wKS adK adV tK) [.ref (ad 0), .int p0, .ref ob] (CW cI cJ cQ ad ra σ ++ [(ob, .inl (cJ, 1, .inr (.inl f)))]) (CW cI cJ cQ ad ra σ' ++ [(ob, .inl (cJ, 1, .inr (.inl (otL_back f o))))]) (some (.int r)) := by
  refine gMetH.of (cc := cL_back) (maxL := 4) (ret := some .int) (hh := [(0, 9, 12, 19)]) (by decide) rfl (Nat.le_of_ble_eq_true rfl) ?_
  intro p e s m args below meth c S hr hlk htab hK hKS hA hB ls hl
  have hl : lv_has ls 4 [(0, .ref (ad 0)), (1, .int p0), (2, .ref ob)] := hl
  replace S : CallFix p m c cL_back 4 s args (_ :: wsL_law) RL := S
  replace hB : gB D vwCl _ _ (CW cI cJ cQ ad ra σ) [(ob, .inl (cJ, 1, .inr (.inl f)))] _ _ := gEq hB (List.append_nil _)
  have hK3 := hK
  refine lv_aload_n S.1 S.2.1 dL_back_0 rfl (lv_at hl 2 rfl) ?_
  refine lv_iconst (v := 0) S.1 S.2.1 dL_back_1 (by decide) ?_
  refine lv_aload_n S.1 S.2.1 dL_back_2 rfl (lv_at hl 0 rfl) ?_
  refine lv_iload_n S.1 S.2.1 dL_back_3 rfl (lv_at hl 1 rfl) ?_
  refine gCallX (ci := 10) S hK3 wKSc hKS hA (gMetX.weak (kX10_back hl9 h) (fun _ _ q => q.1.1)) (cwL_33 S.2.2.2.2 (rm := rmX10_back) rfl rfl ⟨(Nat.le_of_ble_eq_true rfl), (Nat.le_of_ble_eq_true rfl)⟩) hB 0 rfl rfl rfl hl.1 rfl (lv_room (Nat.le_of_ble_eq_true rfl)) dL_back_4 ⟨(Nat.le_of_ble_eq_true rfl), (Nat.le_of_ble_eq_true rfl)⟩ (fun v H locs ho hB => ?_) (fun k q ce H locs ho hB hce hcv hcl => ?_)
  · obtain ⟨u, rfl⟩ : ∃ u, o = .inr u := by
      cases o with
    | inl k => cases ho
    | inr u => exact ⟨u, rfl⟩
    cases ho
    cases hcd
    refine lv_i2l (v := u.toInt64) S.1 S.2.1 dL_back_7 rfl ?_
    refine gLast0 S hK rfl hB dL_back_8 (fun H locs hB => ?_)
    refine lv_goto (tgt := 15) S.1 S.2.1 dL_back_9 (by decide) ?_
    refine lv_iconst (v := 0) S.1 S.2.1 dL_back_15 (by decide) ?_
    exact vx_retF (Nat.le_of_ble_eq_true rfl) (Nat.le_of_ble_eq_true rfl) (gRetI S.1 S.2.1 hr hlk hB dL_back_16)
  · obtain ⟨k2, rfl⟩ : ∃ k2, o = .inl k2 := by
      cases o with
    | inr u => cases ho
    | inl k => exact ⟨k, rfl⟩
    cases ho
    by_cases e1 : k2 = 1
    · subst e1
      cases hcd
      refine vx_catch (name := exN 1) S.2.2.2.1 [] (⟨0, 9, 12, 19⟩ : ExceptionTableEntry) [] (htab.trans rfl) (fun z hz => nomatch hz) rfl (by decide) (S.2.2.2.2 _ (List.mem_cons_of_mem _ wl_L_19)) (va_Nw.use rfl (hKS.1.1.2.2.1 1 (by decide))) hce hcv hcl ?_
      refine lv_astore_n (lv' := [(3, .ref q), (0, .ref (ad 0)), (1, .int p0), (2, .ref ob)]) S.1 S.2.1 dL_back_12 rfl hl (by decide) rfl (fun ls hl => ?_)
      refine lv_iconst (v := 1) S.1 S.2.1 dL_back_13 (by decide) ?_
      exact vx_retF (Nat.le_of_ble_eq_true rfl) (Nat.le_of_ble_eq_true rfl) (gRetI S.1 S.2.1 hr hlk (gEq hB (List.append_nil _).symm) dL_back_14)
    · exfalso
      unfold cdL_back at hcd
      split at hcd <;> simp_all
/-- what the law sees of it: a number of the throw, 0: none -/
def cdL_restart : Nat ⊕ Int32 → Option Int32
  | .inr _ => some 0
  | .inl 0 => some 1
  | .inl _ => none
def otL_restart (f : Nat → Int64) : Nat ⊕ Int32 → (Nat → Int64)
  | .inr v => vp_updL f 0 v.toInt64
  | .inl _ => f
abbrev rmL_restart : Room := { frames := 7, cells := 1, slots := 6, locals := 102 }
def qL_restart : List Cond := .codeWith yL_restart cL_restart 3 (some .int) [(0, 8, 11, 13)] :: wsL_law
set_option maxRecDepth 100000 in
set_option maxHeartbeats 4000000 in
theorem kL_restart {l : Launch} {D : va_G} {cI cJ cQ : ClassId} {ad : Nat → Nat} {ra : Nat → Nat → Nat} {adK adV tK : Nat → Nat} {ob : Nat} {f : Nat → Int64} {L : Nat} {σ σ' : CS} {o : Nat ⊕ Int32} {r : Int32} (hl9 : l.stackTraces = false) (h : FX10_restart L  σ = some (o, σ')) (hcd : cdL_restart o = some r) : gMet l yL_restart qL_restart rmL_restart 1 6 D vwCl [(cI, .int), (cJ, .long), (cQ, .array .long)] (wKS adK adV tK) [.ref (ad 0), .ref ob] (CW cI cJ cQ ad ra σ ++ [(ob, .inl (cJ, 1, .inr (.inl f)))]) (CW cI cJ cQ ad ra σ' ++ [(ob, .inl (cJ, 1, .inr (.inl (otL_restart f o))))]) (some (.int r)) := by
  refine gMetH.of (cc := cL_restart) (maxL := 3) (ret := some .int) (hh := [(0, 8, 11, 13)]) (by decide) rfl (Nat.le_of_ble_eq_true rfl) ?_
  intro p e s m args below meth c S hr hlk htab hK hKS hA hB ls hl
  have hl : lv_has ls 3 [(0, .ref (ad 0)), (1, .ref ob)] := hl
  replace S : CallFix p m c cL_restart 3 s args (_ :: wsL_law) RL := S
  replace hB : gB D vwCl _ _ (CW cI cJ cQ ad ra σ) [(ob, .inl (cJ, 1, .inr (.inl f)))] _ _ := gEq hB (List.append_nil _)
  have hK3 := hK
  refine lv_aload_n S.1 S.2.1 dL_restart_0 rfl (lv_at hl 1 rfl) ?_
  refine lv_iconst (v := 0) S.1 S.2.1 dL_restart_1 (by decide) ?_
  refine lv_aload_n S.1 S.2.1 dL_restart_2 rfl (lv_at hl 0 rfl) ?_
  refine gCallX (ci := 10) S hK3 wKSc hKS hA (gMetX.weak (kX10_restart hl9 h) (fun _ _ q => q.1.1)) (cwL_36 S.2.2.2.2 (rm := rmX10_restart) rfl rfl ⟨(Nat.le_of_ble_eq_true rfl), (Nat.le_of_ble_eq_true rfl)⟩) hB 0 rfl rfl rfl hl.1 rfl (lv_room (Nat.le_of_ble_eq_true rfl)) dL_restart_3 ⟨(Nat.le_of_ble_eq_true rfl), (Nat.le_of_ble_eq_true rfl)⟩ (fun v H locs ho hB => ?_) (fun k q ce H locs ho hB hce hcv hcl => ?_)
  · obtain ⟨u, rfl⟩ : ∃ u, o = .inr u := by
      cases o with
    | inl k => cases ho
    | inr u => exact ⟨u, rfl⟩
    cases ho
    cases hcd
    refine lv_i2l (v := u.toInt64) S.1 S.2.1 dL_restart_6 rfl ?_
    refine gLast0 S hK rfl hB dL_restart_7 (fun H locs hB => ?_)
    refine lv_goto (tgt := 14) S.1 S.2.1 dL_restart_8 (by decide) ?_
    refine lv_iconst (v := 0) S.1 S.2.1 dL_restart_14 (by decide) ?_
    exact vx_retF (Nat.le_of_ble_eq_true rfl) (Nat.le_of_ble_eq_true rfl) (gRetI S.1 S.2.1 hr hlk hB dL_restart_15)
  · obtain ⟨k2, rfl⟩ : ∃ k2, o = .inl k2 := by
      cases o with
    | inr u => cases ho
    | inl k => exact ⟨k, rfl⟩
    cases ho
    by_cases e0 : k2 = 0
    · subst e0
      cases hcd
      refine vx_catch (name := exN 0) S.2.2.2.1 [] (⟨0, 8, 11, 13⟩ : ExceptionTableEntry) [] (htab.trans rfl) (fun z hz => nomatch hz) rfl (by decide) (S.2.2.2.2 _ (List.mem_cons_of_mem _ wl_L_13)) (va_Nw.use rfl (hKS.1.1.2.2.1 0 (by decide))) hce hcv hcl ?_
      refine lv_astore_n (lv' := [(2, .ref q), (0, .ref (ad 0)), (1, .ref ob)]) S.1 S.2.1 dL_restart_11 rfl hl (by decide) rfl (fun ls hl => ?_)
      refine lv_iconst (v := 1) S.1 S.2.1 dL_restart_12 (by decide) ?_
      exact vx_retF (Nat.le_of_ble_eq_true rfl) (Nat.le_of_ble_eq_true rfl) (gRetI S.1 S.2.1 hr hlk (gEq hB (List.append_nil _).symm) dL_restart_13)
    · exfalso
      unfold cdL_restart at hcd
      split at hcd <;> simp_all
/-- what the law sees of it: a number of the throw, 0: none -/
def cdL_replay : Nat ⊕ Int32 → Option Int32
  | .inr _ => some 0
  | .inl 0 => some 1
  | .inl _ => none
def otL_replay (f : Nat → Int64) : Nat ⊕ Int32 → (Nat → Int64)
  | .inr v => vp_updL f 0 v.toInt64
  | .inl _ => f
abbrev rmL_replay : Room := { frames := 8, cells := 1, slots := 6, locals := 191 }
def qL_replay : List Cond := .codeWith yL_replay cL_replay 3 (some .int) [(0, 8, 11, 13)] :: wsL_law
set_option maxRecDepth 100000 in
set_option maxHeartbeats 4000000 in
theorem kL_replay {l : Launch} {D : va_G} {cI cJ cQ : ClassId} {ad : Nat → Nat} {ra : Nat → Nat → Nat} {adK adV tK : Nat → Nat} {ob : Nat} {f : Nat → Int64} {L : Nat} {σ σ' : CS} {o : Nat ⊕ Int32} {r : Int32} (hl9 : l.stackTraces = false) (h : FX10_replay L  σ = some (o, σ')) (hcd : cdL_replay o = some r) : gMet l yL_replay qL_replay rmL_replay 1 6 D vwCl [(cI, .int), (cJ, .long), (cQ, .array .long)] (wKS adK adV tK) [.ref (ad 0), .ref ob] (CW cI cJ cQ ad ra σ ++ [(ob, .inl (cJ, 1, .inr (.inl f)))]) (CW cI cJ cQ ad ra σ' ++ [(ob, .inl (cJ, 1, .inr (.inl (otL_replay f o))))]) (some (.int r)) := by
  refine gMetH.of (cc := cL_replay) (maxL := 3) (ret := some .int) (hh := [(0, 8, 11, 13)]) (by decide) rfl (Nat.le_of_ble_eq_true rfl) ?_
  intro p e s m args below meth c S hr hlk htab hK hKS hA hB ls hl
  have hl : lv_has ls 3 [(0, .ref (ad 0)), (1, .ref ob)] := hl
  replace S : CallFix p m c cL_replay 3 s args (_ :: wsL_law) RL := S
  replace hB : gB D vwCl _ _ (CW cI cJ cQ ad ra σ) [(ob, .inl (cJ, 1, .inr (.inl f)))] _ _ := gEq hB (List.append_nil _)
  have hK3 := hK
  refine lv_aload_n S.1 S.2.1 dL_replay_0 rfl (lv_at hl 1 rfl) ?_
  refine lv_iconst (v := 0) S.1 S.2.1 dL_replay_1 (by decide) ?_
  refine lv_aload_n S.1 S.2.1 dL_replay_2 rfl (lv_at hl 0 rfl) ?_
  refine gCallX (ci := 10) S hK3 wKSc hKS hA (gMetX.weak (kX10_replay hl9 h) (fun _ _ q => q.1.1)) (cwL_40 S.2.2.2.2 (rm := rmX10_replay) rfl rfl ⟨(Nat.le_of_ble_eq_true rfl), (Nat.le_of_ble_eq_true rfl)⟩) hB 0 rfl rfl rfl hl.1 rfl (lv_room (Nat.le_of_ble_eq_true rfl)) dL_replay_3 ⟨(Nat.le_of_ble_eq_true rfl), (Nat.le_of_ble_eq_true rfl)⟩ (fun v H locs ho hB => ?_) (fun k q ce H locs ho hB hce hcv hcl => ?_)
  · obtain ⟨u, rfl⟩ : ∃ u, o = .inr u := by
      cases o with
    | inl k => cases ho
    | inr u => exact ⟨u, rfl⟩
    cases ho
    cases hcd
    refine lv_i2l (v := u.toInt64) S.1 S.2.1 dL_replay_6 rfl ?_
    refine gLast0 S hK rfl hB dL_replay_7 (fun H locs hB => ?_)
    refine lv_goto (tgt := 14) S.1 S.2.1 dL_replay_8 (by decide) ?_
    refine lv_iconst (v := 0) S.1 S.2.1 dL_replay_14 (by decide) ?_
    exact vx_retF (Nat.le_of_ble_eq_true rfl) (Nat.le_of_ble_eq_true rfl) (gRetI S.1 S.2.1 hr hlk hB dL_replay_15)
  · obtain ⟨k2, rfl⟩ : ∃ k2, o = .inl k2 := by
      cases o with
    | inr u => cases ho
    | inl k => exact ⟨k, rfl⟩
    cases ho
    by_cases e0 : k2 = 0
    · subst e0
      cases hcd
      refine vx_catch (name := exN 0) S.2.2.2.1 [] (⟨0, 8, 11, 13⟩ : ExceptionTableEntry) [] (htab.trans rfl) (fun z hz => nomatch hz) rfl (by decide) (S.2.2.2.2 _ (List.mem_cons_of_mem _ wl_L_13)) (va_Nw.use rfl (hKS.1.1.2.2.1 0 (by decide))) hce hcv hcl ?_
      refine lv_astore_n (lv' := [(2, .ref q), (0, .ref (ad 0)), (1, .ref ob)]) S.1 S.2.1 dL_replay_11 rfl hl (by decide) rfl (fun ls hl => ?_)
      refine lv_iconst (v := 1) S.1 S.2.1 dL_replay_12 (by decide) ?_
      exact vx_retF (Nat.le_of_ble_eq_true rfl) (Nat.le_of_ble_eq_true rfl) (gRetI S.1 S.2.1 hr hlk (gEq hB (List.append_nil _).symm) dL_replay_13)
    · exfalso
      unfold cdL_replay at hcd
      split at hcd <;> simp_all
/-- what the law sees of it: a number of the throw, 0: none -/
def cdL_time : Nat ⊕ Int32 → Option Int32
  | .inr _ => some 0
  | .inl 2 => some 1
  | .inl _ => none
def otL_time (f : Nat → Int64) : Nat ⊕ Int32 → (Nat → Int64)
  | .inr v => vp_updL f 0 v.toInt64
  | .inl _ => f
abbrev rmL_time : Room := { frames := 7, cells := 1, slots := 6, locals := 103 }
def qL_time : List Cond := .codeWith yL_time cL_time 4 (some .int) [(0, 9, 12, 24)] :: wsL_law
set_option maxRecDepth 100000 in
set_option maxHeartbeats 4000000 in
theorem kL_time {l : Launch} {D : va_G} {cI cJ cQ : ClassId} {ad : Nat → Nat} {ra : Nat → Nat → Nat} {adK adV tK : Nat → Nat} {ob : Nat} {f : Nat → Int64} {p0 : Int32} {σ σ' : CS} {o : Nat ⊕ Int32} {r : Int32} (hl9 : l.stackTraces = false) (h : FX10_time p0 σ = some (o, σ')) (hcd : cdL_time o = some r) : gMet l yL_time qL_time rmL_time 1 6 D vwCl [(cI, .int), (cJ, .long), (cQ, .array .long)] (wKS adK adV tK) [.ref (ad 0), .int p0, .ref ob] (CW cI cJ cQ ad ra σ ++ [(ob, .inl (cJ, 1, .inr (.inl f)))]) (CW cI cJ cQ ad ra σ' ++ [(ob, .inl (cJ, 1, .inr (.inl (otL_time f o))))]) (some (.int r)) := by
  refine gMetH.of (cc := cL_time) (maxL := 4) (ret := some .int) (hh := [(0, 9, 12, 24)]) (by decide) rfl (Nat.le_of_ble_eq_true rfl) ?_
  intro p e s m args below meth c S hr hlk htab hK hKS hA hB ls hl
  have hl : lv_has ls 4 [(0, .ref (ad 0)), (1, .int p0), (2, .ref ob)] := hl
  replace S : CallFix p m c cL_time 4 s args (_ :: wsL_law) RL := S
  replace hB : gB D vwCl _ _ (CW cI cJ cQ ad ra σ) [(ob, .inl (cJ, 1, .inr (.inl f)))] _ _ := gEq hB (List.append_nil _)
  have hK3 := hK
  refine lv_aload_n S.1 S.2.1 dL_time_0 rfl (lv_at hl 2 rfl) ?_
  refine lv_iconst (v := 0) S.1 S.2.1 dL_time_1 (by decide) ?_
  refine lv_aload_n S.1 S.2.1 dL_time_2 rfl (lv_at hl 0 rfl) ?_
  refine lv_iload_n S.1 S.2.1 dL_time_3 rfl (lv_at hl 1 rfl) ?_
  refine gCallX (ci := 10) S hK3 wKSc hKS hA (gMetX.weak (kX10_time hl9 h) (fun _ _ q => q.1.1)) (cwL_43 S.2.2.2.2 (rm := rmX10_time) rfl rfl ⟨(Nat.le_of_ble_eq_true rfl), (Nat.le_of_ble_eq_true rfl)⟩) hB 0 rfl rfl rfl hl.1 rfl (lv_room (Nat.le_of_ble_eq_true rfl)) dL_time_4 ⟨(Nat.le_of_ble_eq_true rfl), (Nat.le_of_ble_eq_true rfl)⟩ (fun v H locs ho hB => ?_) (fun k q ce H locs ho hB hce hcv hcl => ?_)
  · obtain ⟨u, rfl⟩ : ∃ u, o = .inr u := by
      cases o with
    | inl k => cases ho
    | inr u => exact ⟨u, rfl⟩
    cases ho
    cases hcd
    refine lv_i2l (v := u.toInt64) S.1 S.2.1 dL_time_7 rfl ?_
    refine gLast0 S hK rfl hB dL_time_8 (fun H locs hB => ?_)
    refine lv_goto (tgt := 15) S.1 S.2.1 dL_time_9 (by decide) ?_
    refine lv_iconst (v := 0) S.1 S.2.1 dL_time_15 (by decide) ?_
    exact vx_retF (Nat.le_of_ble_eq_true rfl) (Nat.le_of_ble_eq_true rfl) (gRetI S.1 S.2.1 hr hlk hB dL_time_16)
  · obtain ⟨k2, rfl⟩ : ∃ k2, o = .inl k2 := by
      cases o with
    | inr u => cases ho
    | inl k => exact ⟨k, rfl⟩
    cases ho
    by_cases e2 : k2 = 2
    · subst e2
      cases hcd
      refine vx_catch (name := exN 2) S.2.2.2.1 [] (⟨0, 9, 12, 24⟩ : ExceptionTableEntry) [] (htab.trans rfl) (fun z hz => nomatch hz) rfl (by decide) (S.2.2.2.2 _ (List.mem_cons_of_mem _ wl_L_24)) (va_Nw.use rfl (hKS.1.1.2.2.1 2 (by decide))) hce hcv hcl ?_
      refine lv_astore_n (lv' := [(3, .ref q), (0, .ref (ad 0)), (1, .int p0), (2, .ref ob)]) S.1 S.2.1 dL_time_12 rfl hl (by decide) rfl (fun ls hl => ?_)
      refine lv_iconst (v := 1) S.1 S.2.1 dL_time_13 (by decide) ?_
      exact vx_retF (Nat.le_of_ble_eq_true rfl) (Nat.le_of_ble_eq_true rfl) (gRetI S.1 S.2.1 hr hlk (gEq hB (List.append_nil _).symm) dL_time_14)
    · exfalso
      unfold cdL_time at hcd
      split at hcd <;> simp_all
/-- what the law sees of it: a number of the throw, 0: none -/
def cdL_signal : Nat ⊕ Int64 → Option Int32
  | .inr _ => some 0
  | .inl 2 => some 1
  | .inl _ => none
def otL_signal (f : Nat → Int64) : Nat ⊕ Int64 → (Nat → Int64)
  | .inr v => vp_updL f 0 v
  | .inl _ => f
abbrev rmL_signal : Room := { frames := 7, cells := 1, slots := 6, locals := 104 }
def qL_signal : List Cond := .codeWith yL_signal cL_signal 5 (some .int) [(0, 9, 12, 24)] :: wsL_law
set_option maxRecDepth 100000 in
set_option maxHeartbeats 4000000 in
theorem kL_signal {l : Launch} {D : va_G} {cI cJ cQ : ClassId} {ad : Nat → Nat} {ra : Nat → Nat → Nat} {adK adV tK : Nat → Nat} {ob : Nat} {f : Nat → Int64} {p0 : Int32} {p1 : Int32} {σ σ' : CS} {o : Nat ⊕ Int64} {r : Int32} (hl9 : l.stackTraces = false) (h : FX10_signal p0 p1 σ = some (o, σ')) (hcd : cdL_signal o = some r) : gMet l yL_signal qL_signal rmL_signal 1 6 D vwCl [(cI, .int), (cJ, .long), (cQ, .array .long)] (wKS adK adV tK) [.ref (ad 0), .int p0, .int p1, .ref ob] (CW cI cJ cQ ad ra σ ++ [(ob, .inl (cJ, 1, .inr (.inl f)))]) (CW cI cJ cQ ad ra σ' ++ [(ob, .inl (cJ, 1, .inr (.inl (otL_signal f o))))]) (some (.int r)) := by
  refine gMetH.of (cc := cL_signal) (maxL := 5) (ret := some .int) (hh := [(0, 9, 12, 24)]) (by decide) rfl (Nat.le_of_ble_eq_true rfl) ?_
  intro p e s m args below meth c S hr hlk htab hK hKS hA hB ls hl
  have hl : lv_has ls 5 [(0, .ref (ad 0)), (1, .int p0), (2, .int p1), (3, .ref ob)] := hl
  replace S : CallFix p m c cL_signal 5 s args (_ :: wsL_law) RL := S
  replace hB : gB D vwCl _ _ (CW cI cJ cQ ad ra σ) [(ob, .inl (cJ, 1, .inr (.inl f)))] _ _ := gEq hB (List.append_nil _)
  have hK3 := hK
  refine lv_aload_n S.1 S.2.1 dL_signal_0 rfl (lv_at hl 3 rfl) ?_
  refine lv_iconst (v := 0) S.1 S.2.1 dL_signal_1 (by decide) ?_
  refine lv_aload_n S.1 S.2.1 dL_signal_2 rfl (lv_at hl 0 rfl) ?_
  refine lv_iload_n S.1 S.2.1 dL_signal_3 rfl (lv_at hl 1 rfl) ?_
  refine lv_iload_n S.1 S.2.1 dL_signal_4 rfl (lv_at hl 2 rfl) ?_
  refine gCallX (ci := 10) S hK3 wKSc hKS hA (gMetX.weak (kX10_signal hl9 h) (fun _ _ q => q.1.1)) (cwL_46 S.2.2.2.2 (rm := rmX10_signal) rfl rfl ⟨(Nat.le_of_ble_eq_true rfl), (Nat.le_of_ble_eq_true rfl)⟩) hB 0 rfl rfl rfl hl.1 rfl (lv_room (Nat.le_of_ble_eq_true rfl)) dL_signal_5 ⟨(Nat.le_of_ble_eq_true rfl), (Nat.le_of_ble_eq_true rfl)⟩ (fun v H locs ho hB => ?_) (fun k q ce H locs ho hB hce hcv hcl => ?_)
  · obtain ⟨u, rfl⟩ : ∃ u, o = .inr u := by
      cases o with
    | inl k => cases ho
    | inr u => exact ⟨u, rfl⟩
    cases ho
    cases hcd
    refine gLast0 S hK rfl hB dL_signal_8 (fun H locs hB => ?_)
    refine lv_goto (tgt := 16) S.1 S.2.1 dL_signal_9 (by decide) ?_
    refine lv_iconst (v := 0) S.1 S.2.1 dL_signal_16 (by decide) ?_
    exact vx_retF (Nat.le_of_ble_eq_true rfl) (Nat.le_of_ble_eq_true rfl) (gRetI S.1 S.2.1 hr hlk hB dL_signal_17)
  · obtain ⟨k2, rfl⟩ : ∃ k2, o = .inl k2 := by
      cases o with
    | inr u => cases ho
    | inl k => exact ⟨k, rfl⟩
    cases ho
    by_cases e2 : k2 = 2
    · subst e2
      cases hcd
      refine vx_catch (name := exN 2) S.2.2.2.1 [] (⟨0, 9, 12, 24⟩ : ExceptionTableEntry) [] (htab.trans rfl) (fun z hz => nomatch hz) rfl (by decide) (S.2.2.2.2 _ (List.mem_cons_of_mem _ wl_L_24)) (va_Nw.use rfl (hKS.1.1.2.2.1 2 (by decide))) hce hcv hcl ?_
      refine lv_astore (lv' := [(4, .ref q), (0, .ref (ad 0)), (1, .int p0), (2, .int p1), (3, .ref ob)]) S.1 S.2.1 dL_signal_12 hl (by decide) rfl (fun ls hl => ?_)
      refine lv_iconst (v := 1) S.1 S.2.1 dL_signal_14 (by decide) ?_
      exact vx_retF (Nat.le_of_ble_eq_true rfl) (Nat.le_of_ble_eq_true rfl) (gRetI S.1 S.2.1 hr hlk (gEq hB (List.append_nil _).symm) dL_signal_15)
    · exfalso
      unfold cdL_signal at hcd
      split at hcd <;> simp_all
/-- what the law sees of it: a number of the throw, 0: none -/
def cdL_value : Nat ⊕ Int64 → Option Int32
  | .inr _ => some 0
  | .inl 2 => some 1
  | .inl _ => none
def otL_value (f : Nat → Int64) : Nat ⊕ Int64 → (Nat → Int64)
  | .inr v => vp_updL f 0 v
  | .inl _ => f
abbrev rmL_value : Room := { frames := 7, cells := 1, slots := 6, locals := 104 }
def qL_value : List Cond := .codeWith yL_value cL_value 5 (some .int) [(0, 9, 12, 24)] :: wsL_law
set_option maxRecDepth 100000 in
set_option maxHeartbeats 4000000 in
theorem kL_value {l : Launch} {D : va_G} {cI cJ cQ : ClassId} {ad : Nat → Nat} {ra : Nat → Nat → Nat} {adK adV tK : Nat → Nat} {ob : Nat} {f : Nat → Int64} {p0 : Int32} {p1 : Int32} {σ σ' : CS} {o : Nat ⊕ Int64} {r : Int32} (hl9 : l.stackTraces = false) (h : FX10_value p0 p1 σ = some (o, σ')) (hcd : cdL_value o = some r) : gMet l yL_value qL_value rmL_value 1 6 D vwCl [(cI, .int), (cJ, .long), (cQ, .array .long)] (wKS adK adV tK) [.ref (ad 0), .int p0, .int p1, .ref ob] (CW cI cJ cQ ad ra σ ++ [(ob, .inl (cJ, 1, .inr (.inl f)))]) (CW cI cJ cQ ad ra σ' ++ [(ob, .inl (cJ, 1, .inr (.inl (otL_value f o))))]) (some (.int r)) := by
  refine gMetH.of (cc := cL_value) (maxL := 5) (ret := some .int) (hh := [(0, 9, 12, 24)]) (by decide) rfl (Nat.le_of_ble_eq_true rfl) ?_
  intro p e s m args below meth c S hr hlk htab hK hKS hA hB ls hl
  have hl : lv_has ls 5 [(0, .ref (ad 0)), (1, .int p0), (2, .int p1), (3, .ref ob)] := hl
  replace S : CallFix p m c cL_value 5 s args (_ :: wsL_law) RL := S
  replace hB : gB D vwCl _ _ (CW cI cJ cQ ad ra σ) [(ob, .inl (cJ, 1, .inr (.inl f)))] _ _ := gEq hB (List.append_nil _)
  have hK3 := hK
  refine lv_aload_n S.1 S.2.1 dL_value_0 rfl (lv_at hl 3 rfl) ?_
  refine lv_iconst (v := 0) S.1 S.2.1 dL_value_1 (by decide) ?_
  refine lv_aload_n S.1 S.2.1 dL_value_2 rfl (lv_at hl 0 rfl) ?_
  refine lv_iload_n S.1 S.2.1 dL_value_3 rfl (lv_at hl 1 rfl) ?_
  refine lv_iload_n S.1 S.2.1 dL_value_4 rfl (lv_at hl 2 rfl) ?_
  refine gCallX (ci := 10) S hK3 wKSc hKS hA (gMetX.weak (kX10_value hl9 h) (fun _ _ q => q.1.1)) (cwL_50 S.2.2.2.2 (rm := rmX10_value) rfl rfl ⟨(Nat.le_of_ble_eq_true rfl), (Nat.le_of_ble_eq_true rfl)⟩) hB 0 rfl rfl rfl hl.1 rfl (lv_room (Nat.le_of_ble_eq_true rfl)) dL_value_5 ⟨(Nat.le_of_ble_eq_true rfl), (Nat.le_of_ble_eq_true rfl)⟩ (fun v H locs ho hB => ?_) (fun k q ce H locs ho hB hce hcv hcl => ?_)
  · obtain ⟨u, rfl⟩ : ∃ u, o = .inr u := by
      cases o with
    | inl k => cases ho
    | inr u => exact ⟨u, rfl⟩
    cases ho
    cases hcd
    refine gLast0 S hK rfl hB dL_value_8 (fun H locs hB => ?_)
    refine lv_goto (tgt := 16) S.1 S.2.1 dL_value_9 (by decide) ?_
    refine lv_iconst (v := 0) S.1 S.2.1 dL_value_16 (by decide) ?_
    exact vx_retF (Nat.le_of_ble_eq_true rfl) (Nat.le_of_ble_eq_true rfl) (gRetI S.1 S.2.1 hr hlk hB dL_value_17)
  · obtain ⟨k2, rfl⟩ : ∃ k2, o = .inl k2 := by
      cases o with
    | inr u => cases ho
    | inl k => exact ⟨k, rfl⟩
    cases ho
    by_cases e2 : k2 = 2
    · subst e2
      cases hcd
      refine vx_catch (name := exN 2) S.2.2.2.1 [] (⟨0, 9, 12, 24⟩ : ExceptionTableEntry) [] (htab.trans rfl) (fun z hz => nomatch hz) rfl (by decide) (S.2.2.2.2 _ (List.mem_cons_of_mem _ wl_L_24)) (va_Nw.use rfl (hKS.1.1.2.2.1 2 (by decide))) hce hcv hcl ?_
      refine lv_astore (lv' := [(4, .ref q), (0, .ref (ad 0)), (1, .int p0), (2, .int p1), (3, .ref ob)]) S.1 S.2.1 dL_value_12 hl (by decide) rfl (fun ls hl => ?_)
      refine lv_iconst (v := 1) S.1 S.2.1 dL_value_14 (by decide) ?_
      exact vx_retF (Nat.le_of_ble_eq_true rfl) (Nat.le_of_ble_eq_true rfl) (gRetI S.1 S.2.1 hr hlk (gEq hB (List.append_nil _).symm) dL_value_15)
    · exfalso
      unfold cdL_value at hcd
      split at hcd <;> simp_all
/-- what the law sees of it: a number of the throw, 0: none -/
def cdL_let : Nat ⊕ Int32 → Option Int32
  | .inr _ => some 0
  | .inl 2 => some 1
  | .inl _ => none
def otL_let (f : Nat → Int64) : Nat ⊕ Int32 → (Nat → Int64)
  | .inr v => vp_updL f 0 (if v = 0 then 0 else 1)
  | .inl _ => f
abbrev rmL_let : Room := { frames := 7, cells := 1, slots := 6, locals := 104 }
def qL_let : List Cond := .codeWith yL_let cL_let 5 (some .int) [(0, 17, 20, 24)] :: wsL_law
set_option maxRecDepth 100000 in
set_option maxHeartbeats 4000000 in
theorem kL_let {l : Launch} {D : va_G} {cI cJ cQ : ClassId} {ad : Nat → Nat} {ra : Nat → Nat → Nat} {adK adV tK : Nat → Nat} {ob : Nat} {f : Nat → Int64} {p0 : Int32} {p1 : Int32} {σ σ' : CS} {o : Nat ⊕ Int32} {r : Int32} (hl9 : l.stackTraces = false) (h : FX10_let p0 p1 σ = some (o, σ')) (hcd : cdL_let o = some r) : gMet l yL_let qL_let rmL_let 1 6 D vwCl [(cI, .int), (cJ, .long), (cQ, .array .long)] (wKS adK adV tK) [.ref (ad 0), .int p0, .int p1, .ref ob] (CW cI cJ cQ ad ra σ ++ [(ob, .inl (cJ, 1, .inr (.inl f)))]) (CW cI cJ cQ ad ra σ' ++ [(ob, .inl (cJ, 1, .inr (.inl (otL_let f o))))]) (some (.int r)) := by
  refine gMetH.of (cc := cL_let) (maxL := 5) (ret := some .int) (hh := [(0, 17, 20, 24)]) (by decide) rfl (Nat.le_of_ble_eq_true rfl) ?_
  intro p e s m args below meth c S hr hlk htab hK hKS hA hB ls hl
  have hl : lv_has ls 5 [(0, .ref (ad 0)), (1, .int p0), (2, .int p1), (3, .ref ob)] := hl
  replace S : CallFix p m c cL_let 5 s args (_ :: wsL_law) RL := S
  replace hB : gB D vwCl _ _ (CW cI cJ cQ ad ra σ) [(ob, .inl (cJ, 1, .inr (.inl f)))] _ _ := gEq hB (List.append_nil _)
  have hK3 := hK
  refine lv_aload_n S.1 S.2.1 dL_let_0 rfl (lv_at hl 3 rfl) ?_
  refine lv_iconst (v := 0) S.1 S.2.1 dL_let_1 (by decide) ?_
  refine lv_aload_n S.1 S.2.1 dL_let_2 rfl (lv_at hl 0 rfl) ?_
  refine lv_iload_n S.1 S.2.1 dL_let_3 rfl (lv_at hl 1 rfl) ?_
  refine lv_iload_n S.1 S.2.1 dL_let_4 rfl (lv_at hl 2 rfl) ?_
  refine gCallX (ci := 10) S hK3 wKSc hKS hA (gMetX.weak (kX10_let hl9 h) (fun _ _ q => q.1.1)) (cwL_53 S.2.2.2.2 (rm := rmX10_let) rfl rfl ⟨(Nat.le_of_ble_eq_true rfl), (Nat.le_of_ble_eq_true rfl)⟩) hB 0 rfl rfl rfl hl.1 rfl (lv_room (Nat.le_of_ble_eq_true rfl)) dL_let_5 ⟨(Nat.le_of_ble_eq_true rfl), (Nat.le_of_ble_eq_true rfl)⟩ (fun v H locs ho hB => ?_) (fun k q ce H locs ho hB hce hcv hcl => ?_)
  · obtain ⟨u, rfl⟩ : ∃ u, o = .inr u := by
      cases o with
    | inl k => cases ho
    | inr u => exact ⟨u, rfl⟩
    cases ho
    cases hcd
    refine lv_if_eq (tgt := 15) S.1 S.2.1 dL_let_8 (by decide) (fun c_1 => ?_) (fun c_1 => ?_)
    · have eo : (otL_let f (.inr u) : Nat → Int64) = vp_updL f 0 0 := by show vp_updL f 0 (if u = 0 then 0 else 1) = _; rw [if_pos c_1]
      rw [eo]
      refine lv_lconst (v := 0) S.1 S.2.1 dL_let_15 (by decide) ?_
      refine gLast0 S hK rfl hB dL_let_16 (fun H locs hB => ?_)
      refine lv_goto (tgt := 24) S.1 S.2.1 dL_let_17 (by decide) ?_
      refine lv_iconst (v := 0) S.1 S.2.1 dL_let_24 (by decide) ?_
      exact vx_retF (Nat.le_of_ble_eq_true rfl) (Nat.le_of_ble_eq_true rfl) (gRetI S.1 S.2.1 hr hlk hB dL_let_25)
    · have eo : (otL_let f (.inr u) : Nat → Int64) = vp_updL f 0 1 := by show vp_updL f 0 (if u = 0 then 0 else 1) = _; rw [if_neg c_1]
      rw [eo]
      refine lv_lconst (v := 1) S.1 S.2.1 dL_let_11 (by decide) ?_
      refine lv_goto (tgt := 16) S.1 S.2.1 dL_let_12 (by decide) ?_
      refine gLast0 S hK rfl hB dL_let_16 (fun H locs hB => ?_)
      refine lv_goto (tgt := 24) S.1 S.2.1 dL_let_17 (by decide) ?_
      refine lv_iconst (v := 0) S.1 S.2.1 dL_let_24 (by decide) ?_
      exact vx_retF (Nat.le_of_ble_eq_true rfl) (Nat.le_of_ble_eq_true rfl) (gRetI S.1 S.2.1 hr hlk hB dL_let_25)
  · obtain ⟨k2, rfl⟩ : ∃ k2, o = .inl k2 := by
      cases o with
    | inr u => cases ho
    | inl k => exact ⟨k, rfl⟩
    cases ho
    by_cases e2 : k2 = 2
    · subst e2
      cases hcd
      refine vx_catch (name := exN 2) S.2.2.2.1 [] (⟨0, 17, 20, 24⟩ : ExceptionTableEntry) [] (htab.trans rfl) (fun z hz => nomatch hz) rfl (by decide) (S.2.2.2.2 _ (List.mem_cons_of_mem _ wl_L_24)) (va_Nw.use rfl (hKS.1.1.2.2.1 2 (by decide))) hce hcv hcl ?_
      refine lv_astore (lv' := [(4, .ref q), (0, .ref (ad 0)), (1, .int p0), (2, .int p1), (3, .ref ob)]) S.1 S.2.1 dL_let_20 hl (by decide) rfl (fun ls hl => ?_)
      refine lv_iconst (v := 1) S.1 S.2.1 dL_let_22 (by decide) ?_
      exact vx_retF (Nat.le_of_ble_eq_true rfl) (Nat.le_of_ble_eq_true rfl) (gRetI S.1 S.2.1 hr hlk (gEq hB (List.append_nil _).symm) dL_let_23)
    · exfalso
      unfold cdL_let at hcd
      split at hcd <;> simp_all
/-- what the law sees of it: a number of the throw, 0: none -/
def cdL_watch : Nat ⊕ Int32 → Option Int32
  | .inr _ => some 0
  | .inl 2 => some 1
  | .inl _ => none
def otL_watch (f : Nat → Int64) : Nat ⊕ Int32 → (Nat → Int64)
  | .inr v => vp_updL f 0 (if v = 0 then 0 else 1)
  | .inl _ => f
abbrev rmL_watch : Room := { frames := 7, cells := 1, slots := 6, locals := 104 }
def qL_watch : List Cond := .codeWith yL_watch cL_watch 5 (some .int) [(0, 17, 20, 24)] :: wsL_law
set_option maxRecDepth 100000 in
set_option maxHeartbeats 4000000 in
theorem kL_watch {l : Launch} {D : va_G} {cI cJ cQ : ClassId} {ad : Nat → Nat} {ra : Nat → Nat → Nat} {adK adV tK : Nat → Nat} {ob : Nat} {f : Nat → Int64} {p0 : Int32} {p1 : Int32} {σ σ' : CS} {o : Nat ⊕ Int32} {r : Int32} (hl9 : l.stackTraces = false) (h : FX10_watch p0 p1 σ = some (o, σ')) (hcd : cdL_watch o = some r) : gMet l yL_watch qL_watch rmL_watch 1 6 D vwCl [(cI, .int), (cJ, .long), (cQ, .array .long)] (wKS adK adV tK) [.ref (ad 0), .int p0, .int p1, .ref ob] (CW cI cJ cQ ad ra σ ++ [(ob, .inl (cJ, 1, .inr (.inl f)))]) (CW cI cJ cQ ad ra σ' ++ [(ob, .inl (cJ, 1, .inr (.inl (otL_watch f o))))]) (some (.int r)) := by
  refine gMetH.of (cc := cL_watch) (maxL := 5) (ret := some .int) (hh := [(0, 17, 20, 24)]) (by decide) rfl (Nat.le_of_ble_eq_true rfl) ?_
  intro p e s m args below meth c S hr hlk htab hK hKS hA hB ls hl
  have hl : lv_has ls 5 [(0, .ref (ad 0)), (1, .int p0), (2, .int p1), (3, .ref ob)] := hl
  replace S : CallFix p m c cL_watch 5 s args (_ :: wsL_law) RL := S
  replace hB : gB D vwCl _ _ (CW cI cJ cQ ad ra σ) [(ob, .inl (cJ, 1, .inr (.inl f)))] _ _ := gEq hB (List.append_nil _)
  have hK3 := hK
  refine lv_aload_n S.1 S.2.1 dL_watch_0 rfl (lv_at hl 3 rfl) ?_
  refine lv_iconst (v := 0) S.1 S.2.1 dL_watch_1 (by decide) ?_
  refine lv_aload_n S.1 S.2.1 dL_watch_2 rfl (lv_at hl 0 rfl) ?_
  refine lv_iload_n S.1 S.2.1 dL_watch_3 rfl (lv_at hl 1 rfl) ?_
  refine lv_iload_n S.1 S.2.1 dL_watch_4 rfl (lv_at hl 2 rfl) ?_
  refine gCallX (ci := 10) S hK3 wKSc hKS hA (gMetX.weak (kX10_watch hl9 h) (fun _ _ q => q.1.1)) (cwL_57 S.2.2.2.2 (rm := rmX10_watch) rfl rfl ⟨(Nat.le_of_ble_eq_true rfl), (Nat.le_of_ble_eq_true rfl)⟩) hB 0 rfl rfl rfl hl.1 rfl (lv_room (Nat.le_of_ble_eq_true rfl)) dL_watch_5 ⟨(Nat.le_of_ble_eq_true rfl), (Nat.le_of_ble_eq_true rfl)⟩ (fun v H locs ho hB => ?_) (fun k q ce H locs ho hB hce hcv hcl => ?_)
  · obtain ⟨u, rfl⟩ : ∃ u, o = .inr u := by
      cases o with
    | inl k => cases ho
    | inr u => exact ⟨u, rfl⟩
    cases ho
    cases hcd
    refine lv_if_eq (tgt := 15) S.1 S.2.1 dL_watch_8 (by decide) (fun c_1 => ?_) (fun c_1 => ?_)
    · have eo : (otL_watch f (.inr u) : Nat → Int64) = vp_updL f 0 0 := by show vp_updL f 0 (if u = 0 then 0 else 1) = _; rw [if_pos c_1]
      rw [eo]
      refine lv_lconst (v := 0) S.1 S.2.1 dL_watch_15 (by decide) ?_
      refine gLast0 S hK rfl hB dL_watch_16 (fun H locs hB => ?_)
      refine lv_goto (tgt := 24) S.1 S.2.1 dL_watch_17 (by decide) ?_
      refine lv_iconst (v := 0) S.1 S.2.1 dL_watch_24 (by decide) ?_
      exact vx_retF (Nat.le_of_ble_eq_true rfl) (Nat.le_of_ble_eq_true rfl) (gRetI S.1 S.2.1 hr hlk hB dL_watch_25)
    · have eo : (otL_watch f (.inr u) : Nat → Int64) = vp_updL f 0 1 := by show vp_updL f 0 (if u = 0 then 0 else 1) = _; rw [if_neg c_1]
      rw [eo]
      refine lv_lconst (v := 1) S.1 S.2.1 dL_watch_11 (by decide) ?_
      refine lv_goto (tgt := 16) S.1 S.2.1 dL_watch_12 (by decide) ?_
      refine gLast0 S hK rfl hB dL_watch_16 (fun H locs hB => ?_)
      refine lv_goto (tgt := 24) S.1 S.2.1 dL_watch_17 (by decide) ?_
      refine lv_iconst (v := 0) S.1 S.2.1 dL_watch_24 (by decide) ?_
      exact vx_retF (Nat.le_of_ble_eq_true rfl) (Nat.le_of_ble_eq_true rfl) (gRetI S.1 S.2.1 hr hlk hB dL_watch_25)
  · obtain ⟨k2, rfl⟩ : ∃ k2, o = .inl k2 := by
      cases o with
    | inr u => cases ho
    | inl k => exact ⟨k, rfl⟩
    cases ho
    by_cases e2 : k2 = 2
    · subst e2
      cases hcd
      refine vx_catch (name := exN 2) S.2.2.2.1 [] (⟨0, 17, 20, 24⟩ : ExceptionTableEntry) [] (htab.trans rfl) (fun z hz => nomatch hz) rfl (by decide) (S.2.2.2.2 _ (List.mem_cons_of_mem _ wl_L_24)) (va_Nw.use rfl (hKS.1.1.2.2.1 2 (by decide))) hce hcv hcl ?_
      refine lv_astore (lv' := [(4, .ref q), (0, .ref (ad 0)), (1, .int p0), (2, .int p1), (3, .ref ob)]) S.1 S.2.1 dL_watch_20 hl (by decide) rfl (fun ls hl => ?_)
      refine lv_iconst (v := 1) S.1 S.2.1 dL_watch_22 (by decide) ?_
      exact vx_retF (Nat.le_of_ble_eq_true rfl) (Nat.le_of_ble_eq_true rfl) (gRetI S.1 S.2.1 hr hlk (gEq hB (List.append_nil _).symm) dL_watch_23)
    · exfalso
      unfold cdL_watch at hcd
      split at hcd <;> simp_all
/-- what the law sees of it: a number of the throw, 0: none -/
def cdL_told : Nat ⊕ Int32 → Option Int32
  | .inr _ => some 0
  | .inl 2 => some 1
  | .inl _ => none
def otL_told (f : Nat → Int64) : Nat ⊕ Int32 → (Nat → Int64)
  | .inr v => vp_updL f 0 v.toInt64
  | .inl _ => f
abbrev rmL_told : Room := { frames := 7, cells := 1, slots := 6, locals := 134 }
def qL_told : List Cond := .codeWith yL_told cL_told 5 (some .int) [(0, 10, 13, 24)] :: wsL_law
set_option maxRecDepth 100000 in
set_option maxHeartbeats 4000000 in
theorem kL_told {l : Launch} {D : va_G} {cI cJ cQ : ClassId} {ad : Nat → Nat} {ra : Nat → Nat → Nat} {adK adV tK : Nat → Nat} {ob : Nat} {f : Nat → Int64} {L : Nat} {p0 : Int32} {p1 : Int32} {σ σ' : CS} {o : Nat ⊕ Int32} {r : Int32} (hl9 : l.stackTraces = false) (h : FX10_told L p0 p1 σ = some (o, σ')) (hcd : cdL_told o = some r) : gMet l yL_told qL_told rmL_told 1 6 D vwCl [(cI, .int), (cJ, .long), (cQ, .array .long)] (wKS adK adV tK) [.ref (ad 0), .int p0, .int p1, .ref ob] (CW cI cJ cQ ad ra σ ++ [(ob, .inl (cJ, 1, .inr (.inl f)))]) (CW cI cJ cQ ad ra σ' ++ [(ob, .inl (cJ, 1, .inr (.inl (otL_told f o))))]) (some (.int r)) := by
  refine gMetH.of (cc := cL_told) (maxL := 5) (ret := some .int) (hh := [(0, 10, 13, 24)]) (by decide) rfl (Nat.le_of_ble_eq_true rfl) ?_
  intro p e s m args below meth c S hr hlk htab hK hKS hA hB ls hl
  have hl : lv_has ls 5 [(0, .ref (ad 0)), (1, .int p0), (2, .int p1), (3, .ref ob)] := hl
  replace S : CallFix p m c cL_told 5 s args (_ :: wsL_law) RL := S
  replace hB : gB D vwCl _ _ (CW cI cJ cQ ad ra σ) [(ob, .inl (cJ, 1, .inr (.inl f)))] _ _ := gEq hB (List.append_nil _)
  have hK3 := hK
  refine lv_aload_n S.1 S.2.1 dL_told_0 rfl (lv_at hl 3 rfl) ?_
  refine lv_iconst (v := 0) S.1 S.2.1 dL_told_1 (by decide) ?_
  refine lv_aload_n S.1 S.2.1 dL_told_2 rfl (lv_at hl 0 rfl) ?_
  refine lv_iload_n S.1 S.2.1 dL_told_3 rfl (lv_at hl 1 rfl) ?_
  refine lv_iload_n S.1 S.2.1 dL_told_4 rfl (lv_at hl 2 rfl) ?_
  refine gCallX (ci := 10) S hK3 wKSc hKS hA (gMetX.weak (kX10_told hl9 h) (fun _ _ q => q.1.1)) (cwL_60 S.2.2.2.2 (rm := rmX10_told) rfl rfl ⟨(Nat.le_of_ble_eq_true rfl), (Nat.le_of_ble_eq_true rfl)⟩) hB 0 rfl rfl rfl hl.1 rfl (lv_room (Nat.le_of_ble_eq_true rfl)) dL_told_5 ⟨(Nat.le_of_ble_eq_true rfl), (Nat.le_of_ble_eq_true rfl)⟩ (fun v H locs ho hB => ?_) (fun k q ce H locs ho hB hce hcv hcl => ?_)
  · obtain ⟨u, rfl⟩ : ∃ u, o = .inr u := by
      cases o with
    | inl k => cases ho
    | inr u => exact ⟨u, rfl⟩
    cases ho
    cases hcd
    refine lv_i2l (v := u.toInt64) S.1 S.2.1 dL_told_8 rfl ?_
    refine gLast0 S hK rfl hB dL_told_9 (fun H locs hB => ?_)
    refine lv_goto (tgt := 17) S.1 S.2.1 dL_told_10 (by decide) ?_
    refine lv_iconst (v := 0) S.1 S.2.1 dL_told_17 (by decide) ?_
    exact vx_retF (Nat.le_of_ble_eq_true rfl) (Nat.le_of_ble_eq_true rfl) (gRetI S.1 S.2.1 hr hlk hB dL_told_18)
  · obtain ⟨k2, rfl⟩ : ∃ k2, o = .inl k2 := by
      cases o with
    | inr u => cases ho
    | inl k => exact ⟨k, rfl⟩
    cases ho
    by_cases e2 : k2 = 2
    · subst e2
      cases hcd
      refine vx_catch (name := exN 2) S.2.2.2.1 [] (⟨0, 10, 13, 24⟩ : ExceptionTableEntry) [] (htab.trans rfl) (fun z hz => nomatch hz) rfl (by decide) (S.2.2.2.2 _ (List.mem_cons_of_mem _ wl_L_24)) (va_Nw.use rfl (hKS.1.1.2.2.1 2 (by decide))) hce hcv hcl ?_
      refine lv_astore (lv' := [(4, .ref q), (0, .ref (ad 0)), (1, .int p0), (2, .int p1), (3, .ref ob)]) S.1 S.2.1 dL_told_13 hl (by decide) rfl (fun ls hl => ?_)
      refine lv_iconst (v := 1) S.1 S.2.1 dL_told_15 (by decide) ?_
      exact vx_retF (Nat.le_of_ble_eq_true rfl) (Nat.le_of_ble_eq_true rfl) (gRetI S.1 S.2.1 hr hlk (gEq hB (List.append_nil _).symm) dL_told_16)
    · exfalso
      unfold cdL_told at hcd
      split at hcd <;> simp_all
/-- what the law sees of it: a number of the throw, 0: none -/
def cdL_alarms : Nat ⊕ Int32 → Option Int32
  | .inr _ => some 0
  | .inl 1 => some 1
  | .inl _ => none
def otL_alarms (f : Nat → Int64) : Nat ⊕ Int32 → (Nat → Int64)
  | .inr v => vp_updL f 0 v.toInt64
  | .inl _ => f
abbrev rmL_alarms : Room := { frames := 7, cells := 1, slots := 6, locals := 110 }
def qL_alarms : List Cond := .codeWith yL_alarms cL_alarms 4 (some .int) [(0, 9, 12, 19)] :: wsL_law
set_option maxRecDepth 100000 in
set_option maxHeartbeats 4000000 in
theorem kL_alarms {l : Launch} {D : va_G} {cI cJ cQ : ClassId} {ad : Nat → Nat} {ra : Nat → Nat → Nat} {adK adV tK : Nat → Nat} {ob : Nat} {f : Nat → Int64} {L : Nat} {p0 : Int32} {σ σ' : CS} {o : Nat ⊕ Int32} {r : Int32} (hl9 : l.stackTraces = false) (h : FX10_alarms L p0 σ = some (o, σ')) (hcd : cdL_alarms o = some r) : gMet l yL_alarms qL_alarms rmL_alarms 1 6 D vwCl [(cI, .int), (cJ, .long), (cQ, .array .long)] (wKS adK adV tK) [.ref (ad 0), .int p0, .ref ob] (CW cI cJ cQ ad ra σ ++ [(ob, .inl (cJ, 1, .inr (.inl f)))]) (CW cI cJ cQ ad ra σ' ++ [(ob, .inl (cJ, 1, .inr (.inl (otL_alarms f o))))]) (some (.int r)) := by
  refine gMetH.of (cc := cL_alarms) (maxL := 4) (ret := some .int) (hh := [(0, 9, 12, 19)]) (by decide) rfl (Nat.le_of_ble_eq_true rfl) ?_
  intro p e s m args below meth c S hr hlk htab hK hKS hA hB ls hl
  have hl : lv_has ls 4 [(0, .ref (ad 0)), (1, .int p0), (2, .ref ob)] := hl
  replace S : CallFix p m c cL_alarms 4 s args (_ :: wsL_law) RL := S
  replace hB : gB D vwCl _ _ (CW cI cJ cQ ad ra σ) [(ob, .inl (cJ, 1, .inr (.inl f)))] _ _ := gEq hB (List.append_nil _)
  have hK3 := hK
  refine lv_aload_n S.1 S.2.1 dL_alarms_0 rfl (lv_at hl 2 rfl) ?_
  refine lv_iconst (v := 0) S.1 S.2.1 dL_alarms_1 (by decide) ?_
  refine lv_aload_n S.1 S.2.1 dL_alarms_2 rfl (lv_at hl 0 rfl) ?_
  refine lv_iload_n S.1 S.2.1 dL_alarms_3 rfl (lv_at hl 1 rfl) ?_
  refine gCallX (ci := 10) S hK3 wKSc hKS hA (gMetX.weak (kX10_alarms hl9 h) (fun _ _ q => q.1.1)) (cwL_64 S.2.2.2.2 (rm := rmX10_alarms) rfl rfl ⟨(Nat.le_of_ble_eq_true rfl), (Nat.le_of_ble_eq_true rfl)⟩) hB 0 rfl rfl rfl hl.1 rfl (lv_room (Nat.le_of_ble_eq_true rfl)) dL_alarms_4 ⟨(Nat.le_of_ble_eq_true rfl), (Nat.le_of_ble_eq_true rfl)⟩ (fun v H locs ho hB => ?_) (fun k q ce H locs ho hB hce hcv hcl => ?_)
  · obtain ⟨u, rfl⟩ : ∃ u, o = .inr u := by
      cases o with
    | inl k => cases ho
    | inr u => exact ⟨u, rfl⟩
    cases ho
    cases hcd
    refine lv_i2l (v := u.toInt64) S.1 S.2.1 dL_alarms_7 rfl ?_
    refine gLast0 S hK rfl hB dL_alarms_8 (fun H locs hB => ?_)
    refine lv_goto (tgt := 15) S.1 S.2.1 dL_alarms_9 (by decide) ?_
    refine lv_iconst (v := 0) S.1 S.2.1 dL_alarms_15 (by decide) ?_
    exact vx_retF (Nat.le_of_ble_eq_true rfl) (Nat.le_of_ble_eq_true rfl) (gRetI S.1 S.2.1 hr hlk hB dL_alarms_16)
  · obtain ⟨k2, rfl⟩ : ∃ k2, o = .inl k2 := by
      cases o with
    | inr u => cases ho
    | inl k => exact ⟨k, rfl⟩
    cases ho
    by_cases e1 : k2 = 1
    · subst e1
      cases hcd
      refine vx_catch (name := exN 1) S.2.2.2.1 [] (⟨0, 9, 12, 19⟩ : ExceptionTableEntry) [] (htab.trans rfl) (fun z hz => nomatch hz) rfl (by decide) (S.2.2.2.2 _ (List.mem_cons_of_mem _ wl_L_19)) (va_Nw.use rfl (hKS.1.1.2.2.1 1 (by decide))) hce hcv hcl ?_
      refine lv_astore_n (lv' := [(3, .ref q), (0, .ref (ad 0)), (1, .int p0), (2, .ref ob)]) S.1 S.2.1 dL_alarms_12 rfl hl (by decide) rfl (fun ls hl => ?_)
      refine lv_iconst (v := 1) S.1 S.2.1 dL_alarms_13 (by decide) ?_
      exact vx_retF (Nat.le_of_ble_eq_true rfl) (Nat.le_of_ble_eq_true rfl) (gRetI S.1 S.2.1 hr hlk (gEq hB (List.append_nil _).symm) dL_alarms_14)
    · exfalso
      unfold cdL_alarms at hcd
      split at hcd <;> simp_all
/-- what the law sees of it: a number of the throw, 0: none -/
def cdL_why : Nat ⊕ Int32 → Option Int32
  | .inr _ => some 0
  | .inl 0 => some 2
  | .inl 2 => some 1
  | .inl _ => none
def otL_why (f : Nat → Int64) : Nat ⊕ Int32 → (Nat → Int64)
  | .inr v => vp_updL f 0 v.toInt64
  | .inl _ => f
abbrev rmL_why : Room := { frames := 7, cells := 1, slots := 6, locals := 140 }
def qL_why : List Cond := .codeWith yL_why cL_why 6 (some .int) [(0, 12, 15, 24), (0, 12, 19, 13)] :: wsL_law
set_option maxRecDepth 100000 in
set_option maxHeartbeats 4000000 in
theorem kL_why {l : Launch} {D : va_G} {cI cJ cQ : ClassId} {ad : Nat → Nat} {ra : Nat → Nat → Nat} {adK adV tK : Nat → Nat} {ob : Nat} {f : Nat → Int64} {L : Nat} {p0 : Int32} {p1 : Int32} {p2 : Int32} {σ σ' : CS} {o : Nat ⊕ Int32} {r : Int32} (hl9 : l.stackTraces = false) (h : FX10_why L p0 p1 p2 σ = some (o, σ')) (hcd : cdL_why o = some r) : gMet l yL_why qL_why rmL_why 1 6 D vwCl [(cI, .int), (cJ, .long), (cQ, .array .long)] (wKS adK adV tK) [.ref (ad 0), .int p0, .int p1, .int p2, .ref ob] (CW cI cJ cQ ad ra σ ++ [(ob, .inl (cJ, 1, .inr (.inl f)))]) (CW cI cJ cQ ad ra σ' ++ [(ob, .inl (cJ, 1, .inr (.inl (otL_why f o))))]) (some (.int r)) := by
  refine gMetH.of (cc := cL_why) (maxL := 6) (ret := some .int) (hh := [(0, 12, 15, 24), (0, 12, 19, 13)]) (by decide) rfl (Nat.le_of_ble_eq_true rfl) ?_
  intro p e s m args below meth c S hr hlk htab hK hKS hA hB ls hl
  have hl : lv_has ls 6 [(0, .ref (ad 0)), (1, .int p0), (2, .int p1), (3, .int p2), (4, .ref ob)] := hl
  replace S : CallFix p m c cL_why 6 s args (_ :: wsL_law) RL := S
  replace hB : gB D vwCl _ _ (CW cI cJ cQ ad ra σ) [(ob, .inl (cJ, 1, .inr (.inl f)))] _ _ := gEq hB (List.append_nil _)
  have hK3 := hK
  refine lv_aload S.1 S.2.1 dL_why_0 (lv_at hl 4 rfl) ?_
  refine lv_iconst (v := 0) S.1 S.2.1 dL_why_2 (by decide) ?_
  refine lv_aload_n S.1 S.2.1 dL_why_3 rfl (lv_at hl 0 rfl) ?_
  refine lv_iload_n S.1 S.2.1 dL_why_4 rfl (lv_at hl 1 rfl) ?_
  refine lv_iload_n S.1 S.2.1 dL_why_5 rfl (lv_at hl 2 rfl) ?_
  refine lv_iload_n S.1 S.2.1 dL_why_6 rfl (lv_at hl 3 rfl) ?_
  refine gCallX (ci := 10) S hK3 wKSc hKS hA (gMetX.weak (kX10_why hl9 h) (fun _ _ q => q.1.1)) (cwL_67 S.2.2.2.2 (rm := rmX10_why) rfl rfl ⟨(Nat.le_of_ble_eq_true rfl), (Nat.le_of_ble_eq_true rfl)⟩) hB 0 rfl rfl rfl hl.1 rfl (lv_room (Nat.le_of_ble_eq_true rfl)) dL_why_7 ⟨(Nat.le_of_ble_eq_true rfl), (Nat.le_of_ble_eq_true rfl)⟩ (fun v H locs ho hB => ?_) (fun k q ce H locs ho hB hce hcv hcl => ?_)
  · obtain ⟨u, rfl⟩ : ∃ u, o = .inr u := by
      cases o with
    | inl k => cases ho
    | inr u => exact ⟨u, rfl⟩
    cases ho
    cases hcd
    refine lv_i2l (v := u.toInt64) S.1 S.2.1 dL_why_10 rfl ?_
    refine gLast0 S hK rfl hB dL_why_11 (fun H locs hB => ?_)
    refine lv_goto (tgt := 23) S.1 S.2.1 dL_why_12 (by decide) ?_
    refine lv_iconst (v := 0) S.1 S.2.1 dL_why_23 (by decide) ?_
    exact vx_retF (Nat.le_of_ble_eq_true rfl) (Nat.le_of_ble_eq_true rfl) (gRetI S.1 S.2.1 hr hlk hB dL_why_24)
  · obtain ⟨k2, rfl⟩ : ∃ k2, o = .inl k2 := by
      cases o with
    | inr u => cases ho
    | inl k => exact ⟨k, rfl⟩
    cases ho
    by_cases e0 : k2 = 0
    · subst e0
      cases hcd
      refine vx_catch (name := exN 0) S.2.2.2.1 [(⟨0, 12, 15, 24⟩ : ExceptionTableEntry)] (⟨0, 12, 19, 13⟩ : ExceptionTableEntry) [] (htab.trans rfl) (fun z hz => by
      cases List.mem_singleton.mp hz
      exact Or.inr ⟨by decide, exN 2, (S.2.2.2.2 _ (List.mem_cons_of_mem _ wl_L_24)), hKS.2.2⟩) rfl (by decide) (S.2.2.2.2 _ (List.mem_cons_of_mem _ wl_L_13)) (va_Nw.use rfl (hKS.1.1.2.2.1 0 (by decide))) hce hcv hcl ?_
      refine lv_astore (lv' := [(5, .ref q), (0, .ref (ad 0)), (1, .int p0), (2, .int p1), (3, .int p2), (4, .ref ob)]) S.1 S.2.1 dL_why_19 hl (by decide) rfl (fun ls hl => ?_)
      refine lv_iconst (v := 2) S.1 S.2.1 dL_why_21 (by decide) ?_
      exact vx_retF (Nat.le_of_ble_eq_true rfl) (Nat.le_of_ble_eq_true rfl) (gRetI S.1 S.2.1 hr hlk (gEq hB (List.append_nil _).symm) dL_why_22)
    · by_cases e2 : k2 = 2
      · subst e2
        cases hcd
        refine vx_catch (name := exN 2) S.2.2.2.1 [] (⟨0, 12, 15, 24⟩ : ExceptionTableEntry) [(⟨0, 12, 19, 13⟩ : ExceptionTableEntry)] (htab.trans rfl) (fun z hz => nomatch hz) rfl (by decide) (S.2.2.2.2 _ (List.mem_cons_of_mem _ wl_L_24)) (va_Nw.use rfl (hKS.1.1.2.2.1 2 (by decide))) hce hcv hcl ?_
        refine lv_astore (lv' := [(5, .ref q), (0, .ref (ad 0)), (1, .int p0), (2, .int p1), (3, .int p2), (4, .ref ob)]) S.1 S.2.1 dL_why_15 hl (by decide) rfl (fun ls hl => ?_)
        refine lv_iconst (v := 1) S.1 S.2.1 dL_why_17 (by decide) ?_
        exact vx_retF (Nat.le_of_ble_eq_true rfl) (Nat.le_of_ble_eq_true rfl) (gRetI S.1 S.2.1 hr hlk (gEq hB (List.append_nil _).symm) dL_why_18)
      · exfalso
        unfold cdL_why at hcd
        split at hcd <;> simp_all
/-- what the law sees of it: a number of the throw, 0: none -/
def cdL_differ : Nat ⊕ Int32 → Option Int32
  | .inr _ => some 0
  | .inl 2 => some 1
  | .inl _ => none
def otL_differ (f : Nat → Int64) : Nat ⊕ Int32 → (Nat → Int64)
  | .inr v => vp_updL f 0 v.toInt64
  | .inl _ => f
abbrev rmL_differ : Room := { frames := 7, cells := 1, slots := 6, locals := 105 }
def qL_differ : List Cond := .codeWith yL_differ cL_differ 5 (some .int) [(0, 10, 13, 24)] :: wsL_law
set_option maxRecDepth 100000 in
set_option maxHeartbeats 4000000 in
theorem kL_differ {l : Launch} {D : va_G} {cI cJ cQ : ClassId} {ad : Nat → Nat} {ra : Nat → Nat → Nat} {adK adV tK : Nat → Nat} {ob : Nat} {f : Nat → Int64} {L : Nat} {p0 : Int32} {p1 : Int32} {σ σ' : CS} {o : Nat ⊕ Int32} {r : Int32} (hl9 : l.stackTraces = false) (h : FX10_differ L p0 p1 σ = some (o, σ')) (hcd : cdL_differ o = some r) : gMet l yL_differ qL_differ rmL_differ 1 6 D vwCl [(cI, .int), (cJ, .long), (cQ, .array .long)] (wKS adK adV tK) [.ref (ad 0), .int p0, .int p1, .ref ob] (CW cI cJ cQ ad ra σ ++ [(ob, .inl (cJ, 1, .inr (.inl f)))]) (CW cI cJ cQ ad ra σ' ++ [(ob, .inl (cJ, 1, .inr (.inl (otL_differ f o))))]) (some (.int r)) := by
  refine gMetH.of (cc := cL_differ) (maxL := 5) (ret := some .int) (hh := [(0, 10, 13, 24)]) (by decide) rfl (Nat.le_of_ble_eq_true rfl) ?_
  intro p e s m args below meth c S hr hlk htab hK hKS hA hB ls hl
  have hl : lv_has ls 5 [(0, .ref (ad 0)), (1, .int p0), (2, .int p1), (3, .ref ob)] := hl
  replace S : CallFix p m c cL_differ 5 s args (_ :: wsL_law) RL := S
  replace hB : gB D vwCl _ _ (CW cI cJ cQ ad ra σ) [(ob, .inl (cJ, 1, .inr (.inl f)))] _ _ := gEq hB (List.append_nil _)
  have hK3 := hK
  refine lv_aload_n S.1 S.2.1 dL_differ_0 rfl (lv_at hl 3 rfl) ?_
  refine lv_iconst (v := 0) S.1 S.2.1 dL_differ_1 (by decide) ?_
  refine lv_aload_n S.1 S.2.1 dL_differ_2 rfl (lv_at hl 0 rfl) ?_
  refine lv_iload_n S.1 S.2.1 dL_differ_3 rfl (lv_at hl 1 rfl) ?_
  refine lv_iload_n S.1 S.2.1 dL_differ_4 rfl (lv_at hl 2 rfl) ?_
  refine gCallX (ci := 10) S hK3 wKSc hKS hA (gMetX.weak (kX10_differ hl9 h) (fun _ _ q => q.1.1)) (cwL_71 S.2.2.2.2 (rm := rmX10_differ) rfl rfl ⟨(Nat.le_of_ble_eq_true rfl), (Nat.le_of_ble_eq_true rfl)⟩) hB 0 rfl rfl rfl hl.1 rfl (lv_room (Nat.le_of_ble_eq_true rfl)) dL_differ_5 ⟨(Nat.le_of_ble_eq_true rfl), (Nat.le_of_ble_eq_true rfl)⟩ (fun v H locs ho hB => ?_) (fun k q ce H locs ho hB hce hcv hcl => ?_)
  · obtain ⟨u, rfl⟩ : ∃ u, o = .inr u := by
      cases o with
    | inl k => cases ho
    | inr u => exact ⟨u, rfl⟩
    cases ho
    cases hcd
    refine lv_i2l (v := u.toInt64) S.1 S.2.1 dL_differ_8 rfl ?_
    refine gLast0 S hK rfl hB dL_differ_9 (fun H locs hB => ?_)
    refine lv_goto (tgt := 17) S.1 S.2.1 dL_differ_10 (by decide) ?_
    refine lv_iconst (v := 0) S.1 S.2.1 dL_differ_17 (by decide) ?_
    exact vx_retF (Nat.le_of_ble_eq_true rfl) (Nat.le_of_ble_eq_true rfl) (gRetI S.1 S.2.1 hr hlk hB dL_differ_18)
  · obtain ⟨k2, rfl⟩ : ∃ k2, o = .inl k2 := by
      cases o with
    | inr u => cases ho
    | inl k => exact ⟨k, rfl⟩
    cases ho
    by_cases e2 : k2 = 2
    · subst e2
      cases hcd
      refine vx_catch (name := exN 2) S.2.2.2.1 [] (⟨0, 10, 13, 24⟩ : ExceptionTableEntry) [] (htab.trans rfl) (fun z hz => nomatch hz) rfl (by decide) (S.2.2.2.2 _ (List.mem_cons_of_mem _ wl_L_24)) (va_Nw.use rfl (hKS.1.1.2.2.1 2 (by decide))) hce hcv hcl ?_
      refine lv_astore (lv' := [(4, .ref q), (0, .ref (ad 0)), (1, .int p0), (2, .int p1), (3, .ref ob)]) S.1 S.2.1 dL_differ_13 hl (by decide) rfl (fun ls hl => ?_)
      refine lv_iconst (v := 1) S.1 S.2.1 dL_differ_15 (by decide) ?_
      exact vx_retF (Nat.le_of_ble_eq_true rfl) (Nat.le_of_ble_eq_true rfl) (gRetI S.1 S.2.1 hr hlk (gEq hB (List.append_nil _).symm) dL_differ_16)
    · exfalso
      unfold cdL_differ at hcd
      split at hcd <;> simp_all
/-- what the law sees of it: a number of the throw, 0: none -/
def cdL_share : Nat ⊕ UInt64 → Option Int32
  | .inr _ => some 0
  | .inl 2 => some 1
  | .inl _ => none
def otL_share (f : Nat → UInt64) : Nat ⊕ UInt64 → (Nat → UInt64)
  | .inr v => vf_upd f 0 v
  | .inl _ => f
abbrev rmL_share : Room := { frames := 7, cells := 1, slots := 6, locals := 111 }
def qL_share : List Cond := .codeWith yL_share cL_share 4 (some .int) [(0, 8, 11, 24)] :: wsL_law
set_option maxRecDepth 100000 in
set_option maxHeartbeats 4000000 in
theorem kL_share {l : Launch} {D : va_G} {cI cJ cQ cD : ClassId} {ad : Nat → Nat} {ra : Nat → Nat → Nat} {adK adV tK : Nat → Nat} {ob : Nat} {f : Nat → UInt64} {L : Nat} {p0 : Int32} {σ σ' : CS} {o : Nat ⊕ UInt64} {r : Int32} (hl9 : l.stackTraces = false) (h : FX10_share L p0 σ = some (o, σ')) (hcd : cdL_share o = some r) : gMet l yL_share qL_share rmL_share 1 6 D vwCl [(cI, .int), (cJ, .long), (cQ, .array .long), (cD, .double)] (wKS adK adV tK) [.ref (ad 0), .int p0, .ref ob] (CW cI cJ cQ ad ra σ ++ [(ob, .inl (cD, 1, .inr (.inr (.inr (.inl f)))))]) (CW cI cJ cQ ad ra σ' ++ [(ob, .inl (cD, 1, .inr (.inr (.inr (.inl (otL_share f o))))))]) (some (.int r)) := by
  refine gMetH.of (cc := cL_share) (maxL := 4) (ret := some .int) (hh := [(0, 8, 11, 24)]) (by decide) rfl (Nat.le_of_ble_eq_true rfl) ?_
  intro p e s m args below meth c S hr hlk htab hK hKS hA hB ls hl
  have hl : lv_has ls 4 [(0, .ref (ad 0)), (1, .int p0), (2, .ref ob)] := hl
  replace S : CallFix p m c cL_share 4 s args (_ :: wsL_law) RL := S
  replace hB : gB D vwCl _ _ (CW cI cJ cQ ad ra σ) [(ob, .inl (cD, 1, .inr (.inr (.inr (.inl f)))))] _ _ := gEq hB (List.append_nil _)
  have hK3 := hK.sub (tys' := [(cI, .int), (cJ, .long), (cQ, .array .long)]) [0, 1, 2] rfl
  refine lv_aload_n S.1 S.2.1 dL_share_0 rfl (lv_at hl 2 rfl) ?_
  refine lv_iconst (v := 0) S.1 S.2.1 dL_share_1 (by decide) ?_
  refine lv_aload_n S.1 S.2.1 dL_share_2 rfl (lv_at hl 0 rfl) ?_
  refine lv_iload_n S.1 S.2.1 dL_share_3 rfl (lv_at hl 1 rfl) ?_
  refine gCallX (ci := 10) S hK3 wKSc hKS hA (gMetX.weak (kX10_share hl9 h) (fun _ _ q => q.1.1)) (cwL_74 S.2.2.2.2 (rm := rmX10_share) rfl rfl ⟨(Nat.le_of_ble_eq_true rfl), (Nat.le_of_ble_eq_true rfl)⟩) hB 0 rfl rfl rfl hl.1 rfl (lv_room (Nat.le_of_ble_eq_true rfl)) dL_share_4 ⟨(Nat.le_of_ble_eq_true rfl), (Nat.le_of_ble_eq_true rfl)⟩ (fun v H locs ho hB => ?_) (fun k q ce H locs ho hB hce hcv hcl => ?_)
  · obtain ⟨u, rfl⟩ : ∃ u, o = .inr u := by
      cases o with
    | inl k => cases ho
    | inr u => exact ⟨u, rfl⟩
    cases ho
    cases hcd
    refine gDast0 S hK (i0 := 3) rfl hB dL_share_7 (fun H locs hB => ?_)
    refine lv_goto (tgt := 14) S.1 S.2.1 dL_share_8 (by decide) ?_
    refine lv_iconst (v := 0) S.1 S.2.1 dL_share_14 (by decide) ?_
    exact vx_retF (Nat.le_of_ble_eq_true rfl) (Nat.le_of_ble_eq_true rfl) (gRetI S.1 S.2.1 hr hlk hB dL_share_15)
  · obtain ⟨k2, rfl⟩ : ∃ k2, o = .inl k2 := by
      cases o with
    | inr u => cases ho
    | inl k => exact ⟨k, rfl⟩
    cases ho
    by_cases e2 : k2 = 2
    · subst e2
      cases hcd
      refine vx_catch (name := exN 2) S.2.2.2.1 [] (⟨0, 8, 11, 24⟩ : ExceptionTableEntry) [] (htab.trans rfl) (fun z hz => nomatch hz) rfl (by decide) (S.2.2.2.2 _ (List.mem_cons_of_mem _ wl_L_24)) (va_Nw.use rfl (hKS.1.1.2.2.1 2 (by decide))) hce hcv hcl ?_
      refine lv_astore_n (lv' := [(3, .ref q), (0, .ref (ad 0)), (1, .int p0), (2, .ref ob)]) S.1 S.2.1 dL_share_11 rfl hl (by decide) rfl (fun ls hl => ?_)
      refine lv_iconst (v := 1) S.1 S.2.1 dL_share_12 (by decide) ?_
      exact vx_retF (Nat.le_of_ble_eq_true rfl) (Nat.le_of_ble_eq_true rfl) (gRetI S.1 S.2.1 hr hlk (gEq hB (List.append_nil _).symm) dL_share_13)
    · exfalso
      unfold cdL_share at hcd
      split at hcd <;> simp_all
/-- what the law sees of it: a number of the throw, 0: none -/
def cdL_answer : Nat ⊕ Int32 → Option Int32
  | .inr _ => some 0
  | .inl 0 => some 2
  | .inl 2 => some 1
  | .inl _ => none
def otL_answer (f : Nat → Int64) : Nat ⊕ Int32 → (Nat → Int64)
  | .inr v => vp_updL f 0 (if v = 0 then 0 else 1)
  | .inl _ => f
abbrev rmL_answer : Room := { frames := 7, cells := 1, slots := 6, locals := 103 }
def qL_answer : List Cond := .codeWith yL_answer cL_answer 4 (some .int) [(0, 16, 19, 24), (0, 16, 22, 13)] :: wsL_law
set_option maxRecDepth 100000 in
set_option maxHeartbeats 4000000 in
theorem kL_answer {l : Launch} {D : va_G} {cI cJ cQ : ClassId} {ad : Nat → Nat} {ra : Nat → Nat → Nat} {adK adV tK : Nat → Nat} {ob : Nat} {f : Nat → Int64} {p0 : Int32} {σ σ' : CS} {o : Nat ⊕ Int32} {r : Int32} (hl9 : l.stackTraces = false) (h : FX10_answer p0 σ = some (o, σ')) (hcd : cdL_answer o = some r) : gMet l yL_answer qL_answer rmL_answer 1 6 D vwCl [(cI, .int), (cJ, .long), (cQ, .array .long)] (wKS adK adV tK) [.ref (ad 0), .int p0, .ref ob] (CW cI cJ cQ ad ra σ ++ [(ob, .inl (cJ, 1, .inr (.inl f)))]) (CW cI cJ cQ ad ra σ' ++ [(ob, .inl (cJ, 1, .inr (.inl (otL_answer f o))))]) (some (.int r)) := by
  refine gMetH.of (cc := cL_answer) (maxL := 4) (ret := some .int) (hh := [(0, 16, 19, 24), (0, 16, 22, 13)]) (by decide) rfl (Nat.le_of_ble_eq_true rfl) ?_
  intro p e s m args below meth c S hr hlk htab hK hKS hA hB ls hl
  have hl : lv_has ls 4 [(0, .ref (ad 0)), (1, .int p0), (2, .ref ob)] := hl
  replace S : CallFix p m c cL_answer 4 s args (_ :: wsL_law) RL := S
  replace hB : gB D vwCl _ _ (CW cI cJ cQ ad ra σ) [(ob, .inl (cJ, 1, .inr (.inl f)))] _ _ := gEq hB (List.append_nil _)
  have hK3 := hK
  refine lv_aload_n S.1 S.2.1 dL_answer_0 rfl (lv_at hl 2 rfl) ?_
  refine lv_iconst (v := 0) S.1 S.2.1 dL_answer_1 (by decide) ?_
  refine lv_aload_n S.1 S.2.1 dL_answer_2 rfl (lv_at hl 0 rfl) ?_
  refine lv_iload_n S.1 S.2.1 dL_answer_3 rfl (lv_at hl 1 rfl) ?_
  refine gCallX (ci := 10) S hK3 wKSc hKS hA (gMetX.weak (kX10_answer hl9 h) (fun _ _ q => q.1.1)) (cwL_78 S.2.2.2.2 (rm := rmX10_answer) rfl rfl ⟨(Nat.le_of_ble_eq_true rfl), (Nat.le_of_ble_eq_true rfl)⟩) hB 0 rfl rfl rfl hl.1 rfl (lv_room (Nat.le_of_ble_eq_true rfl)) dL_answer_4 ⟨(Nat.le_of_ble_eq_true rfl), (Nat.le_of_ble_eq_true rfl)⟩ (fun v H locs ho hB => ?_) (fun k q ce H locs ho hB hce hcv hcl => ?_)
  · obtain ⟨u, rfl⟩ : ∃ u, o = .inr u := by
      cases o with
    | inl k => cases ho
    | inr u => exact ⟨u, rfl⟩
    cases ho
    cases hcd
    refine lv_if_eq (tgt := 14) S.1 S.2.1 dL_answer_7 (by decide) (fun c_1 => ?_) (fun c_1 => ?_)
    · have eo : (otL_answer f (.inr u) : Nat → Int64) = vp_updL f 0 0 := by show vp_updL f 0 (if u = 0 then 0 else 1) = _; rw [if_pos c_1]
      rw [eo]
      refine lv_lconst (v := 0) S.1 S.2.1 dL_answer_14 (by decide) ?_
      refine gLast0 S hK rfl hB dL_answer_15 (fun H locs hB => ?_)
      refine lv_goto (tgt := 25) S.1 S.2.1 dL_answer_16 (by decide) ?_
      refine lv_iconst (v := 0) S.1 S.2.1 dL_answer_25 (by decide) ?_
      exact vx_retF (Nat.le_of_ble_eq_true rfl) (Nat.le_of_ble_eq_true rfl) (gRetI S.1 S.2.1 hr hlk hB dL_answer_26)
    · have eo : (otL_answer f (.inr u) : Nat → Int64) = vp_updL f 0 1 := by show vp_updL f 0 (if u = 0 then 0 else 1) = _; rw [if_neg c_1]
      rw [eo]
      refine lv_lconst (v := 1) S.1 S.2.1 dL_answer_10 (by decide) ?_
      refine lv_goto (tgt := 15) S.1 S.2.1 dL_answer_11 (by decide) ?_
      refine gLast0 S hK rfl hB dL_answer_15 (fun H locs hB => ?_)
      refine lv_goto (tgt := 25) S.1 S.2.1 dL_answer_16 (by decide) ?_
      refine lv_iconst (v := 0) S.1 S.2.1 dL_answer_25 (by decide) ?_
      exact vx_retF (Nat.le_of_ble_eq_true rfl) (Nat.le_of_ble_eq_true rfl) (gRetI S.1 S.2.1 hr hlk hB dL_answer_26)
  · obtain ⟨k2, rfl⟩ : ∃ k2, o = .inl k2 := by
      cases o with
    | inr u => cases ho
    | inl k => exact ⟨k, rfl⟩
    cases ho
    by_cases e0 : k2 = 0
    · subst e0
      cases hcd
      refine vx_catch (name := exN 0) S.2.2.2.1 [(⟨0, 16, 19, 24⟩ : ExceptionTableEntry)] (⟨0, 16, 22, 13⟩ : ExceptionTableEntry) [] (htab.trans rfl) (fun z hz => by
      cases List.mem_singleton.mp hz
      exact Or.inr ⟨by decide, exN 2, (S.2.2.2.2 _ (List.mem_cons_of_mem _ wl_L_24)), hKS.2.2⟩) rfl (by decide) (S.2.2.2.2 _ (List.mem_cons_of_mem _ wl_L_13)) (va_Nw.use rfl (hKS.1.1.2.2.1 0 (by decide))) hce hcv hcl ?_
      refine lv_astore_n (lv' := [(3, .ref q), (0, .ref (ad 0)), (1, .int p0), (2, .ref ob)]) S.1 S.2.1 dL_answer_22 rfl hl (by decide) rfl (fun ls hl => ?_)
      refine lv_iconst (v := 2) S.1 S.2.1 dL_answer_23 (by decide) ?_
      exact vx_retF (Nat.le_of_ble_eq_true rfl) (Nat.le_of_ble_eq_true rfl) (gRetI S.1 S.2.1 hr hlk (gEq hB (List.append_nil _).symm) dL_answer_24)
    · by_cases e2 : k2 = 2
      · subst e2
        cases hcd
        refine vx_catch (name := exN 2) S.2.2.2.1 [] (⟨0, 16, 19, 24⟩ : ExceptionTableEntry) [(⟨0, 16, 22, 13⟩ : ExceptionTableEntry)] (htab.trans rfl) (fun z hz => nomatch hz) rfl (by decide) (S.2.2.2.2 _ (List.mem_cons_of_mem _ wl_L_24)) (va_Nw.use rfl (hKS.1.1.2.2.1 2 (by decide))) hce hcv hcl ?_
        refine lv_astore_n (lv' := [(3, .ref q), (0, .ref (ad 0)), (1, .int p0), (2, .ref ob)]) S.1 S.2.1 dL_answer_19 rfl hl (by decide) rfl (fun ls hl => ?_)
        refine lv_iconst (v := 1) S.1 S.2.1 dL_answer_20 (by decide) ?_
        exact vx_retF (Nat.le_of_ble_eq_true rfl) (Nat.le_of_ble_eq_true rfl) (gRetI S.1 S.2.1 hr hlk (gEq hB (List.append_nil _).symm) dL_answer_21)
      · exfalso
        unfold cdL_answer at hcd
        split at hcd <;> simp_all
