
set_option maxHeartbeats 4000000 in
theorem kX1_init {l : Launch} {D : va_G} {cI cJ cQ : ClassId} {KS : (Nat → Prop) → State → Prop} {b : Nat} {p0 : Int32} {N : Nat} (h0 : ¬ p0 < 0) (hN : p0.toNatClampNeg = N) (hby : N ≤ 1000000) : gMetN l yX1_init qX1_init { frames := 1, cells := 1, slots := N, locals := 30 } 1 N D vwCl [(cI, .int), (cJ, .long), (cQ, .array .long)] KS [.ref b, .int p0] [(b, .inr (1, [.null]))] (fun v w' => v = none ∧ ∃ a : Nat, w' = [(b, .inr (1, [.ref a])), (a, .inl (cI, N, .inl (fun _ => 0)))]) := by
  refine gMetN.of (cc := cX1_init) (maxL := 2) (ret := none) (by decide) rfl (Nat.le_of_ble_eq_true rfl) ?_
  intro p e s m args below meth c S hr hlk hnm hK hKS hA hB ls hl
  have hl : lv_has ls 2 [(0, .ref b), (1, .int p0)] := hl
  replace S : CallFix p m c cX1_init 2 s args (_ :: wsL_law) RX1 := S
  refine lv_aload_n S.1 S.2.1 dX1_init_0 rfl (lv_at hl 0 rfl) ?_
  refine gObj S (S.2.2.2.2 _ (List.mem_cons_of_mem _ wm_X1_1)) hl.1 (Nat.le_refl _) (Nat.le_of_ble_eq_true rfl) dX1_init_1 ?_
  refine lv_aload_n S.1 S.2.1 dX1_init_4 rfl (lv_at hl 0 rfl) ?_
  refine lv_iconst (v := 0) S.1 S.2.1 dX1_init_5 (by decide) ?_
  refine lv_iload_n S.1 S.2.1 dX1_init_6 rfl (lv_at hl 1 rfl) ?_
  refine va_mmax S.1 S.2.1 (S.2.2.1.trans hl.1.symm) S.2.2.2.1 (S.2.2.2.2 _ (List.mem_cons_of_mem _ wm_X1_7)) (S.2.2.2.2 _ (List.mem_cons_of_mem _ wo_static_Math_max_name)) (S.2.2.2.2 _ (List.mem_cons_of_mem _ wo_init_Math)) (S.2.2.2.2 _ (List.mem_cons_of_mem _ wo_code_Math_max_name)) (Nat.le_of_ble_eq_true rfl) (Nat.le_of_ble_eq_true rfl) (Nat.zero_le _) (Nat.zero_le _) dX1_init_7 ?_
  rw [gMax0 h0]
  refine gNewI (i := 0) S hK rfl hB hA (S.2.2.2.2 _ (List.mem_cons_of_mem _ wo_arr_int)) h0 hN (by omega) ⟨Nat.le_refl _, by simp⟩ dX1_init_10 (fun q H hB => ?_)
  refine gPutF S hnm hK hB (fun w h => List.mem_cons_of_mem _ (inlX1 w h)) tyX1 tyX1_ok nmX1 0 rfl rfl 0 (by decide) (S.2.2.2.2 _ (List.mem_cons_of_mem _ wf_X1_13)) rfl rfl rfl rfl (Nat.le_of_ble_eq_true rfl) rfl dX1_init_12 (fun H locs hB => ?_)
  exact gRetN S.1 S.2.1 hr hlk hB ⟨rfl, q, rfl⟩ (Nat.le_refl _) (by simp) dX1_init_15


set_option maxHeartbeats 4000000 in
theorem kX2_init {l : Launch} {D : va_G} {cI cJ cQ : ClassId} {KS : (Nat → Prop) → State → Prop} {b : Nat} {p0 : Int32} {N : Nat} (h0 : ¬ p0 < 0) (hN : p0.toNatClampNeg = N) (hby : N ≤ 1000000) : gMetN l yX2_init qX2_init { frames := 1, cells := 1, slots := N, locals := 30 } 1 N D vwCl [(cI, .int), (cJ, .long), (cQ, .array .long)] KS [.ref b, .int p0] [(b, .inr (2, [.null]))] (fun v w' => v = none ∧ ∃ a : Nat, w' = [(b, .inr (2, [.ref a])), (a, .inl (cJ, N, .inr (.inl (fun _ => 0))))]) := by
  refine gMetN.of (cc := cX2_init) (maxL := 2) (ret := none) (by decide) rfl (Nat.le_of_ble_eq_true rfl) ?_
  intro p e s m args below meth c S hr hlk hnm hK hKS hA hB ls hl
  have hl : lv_has ls 2 [(0, .ref b), (1, .int p0)] := hl
  replace S : CallFix p m c cX2_init 2 s args (_ :: wsL_law) RX2 := S
  refine lv_aload_n S.1 S.2.1 dX2_init_0 rfl (lv_at hl 0 rfl) ?_
  refine gObj S (S.2.2.2.2 _ (List.mem_cons_of_mem _ wm_X2_1)) hl.1 (Nat.le_refl _) (Nat.le_of_ble_eq_true rfl) dX2_init_1 ?_
  refine lv_aload_n S.1 S.2.1 dX2_init_4 rfl (lv_at hl 0 rfl) ?_
  refine lv_iconst (v := 0) S.1 S.2.1 dX2_init_5 (by decide) ?_
  refine lv_iload_n S.1 S.2.1 dX2_init_6 rfl (lv_at hl 1 rfl) ?_
  refine va_mmax S.1 S.2.1 (S.2.2.1.trans hl.1.symm) S.2.2.2.1 (S.2.2.2.2 _ (List.mem_cons_of_mem _ wm_X2_7)) (S.2.2.2.2 _ (List.mem_cons_of_mem _ wo_static_Math_max_name)) (S.2.2.2.2 _ (List.mem_cons_of_mem _ wo_init_Math)) (S.2.2.2.2 _ (List.mem_cons_of_mem _ wo_code_Math_max_name)) (Nat.le_of_ble_eq_true rfl) (Nat.le_of_ble_eq_true rfl) (Nat.zero_le _) (Nat.zero_le _) dX2_init_7 ?_
  rw [gMax0 h0]
  refine gNewL (i := 1) S hK rfl hB hA (S.2.2.2.2 _ (List.mem_cons_of_mem _ wo_arr_long)) h0 hN (by omega) ⟨Nat.le_refl _, by simp⟩ dX2_init_10 (fun q H hB => ?_)
  refine gPutF S hnm hK hB (fun w h => List.mem_cons_of_mem _ (inlX2 w h)) tyX2 tyX2_ok nmX2 0 rfl rfl 0 (by decide) (S.2.2.2.2 _ (List.mem_cons_of_mem _ wf_X2_13)) rfl rfl rfl rfl (Nat.le_of_ble_eq_true rfl) rfl dX2_init_12 (fun H locs hB => ?_)
  exact gRetN S.1 S.2.1 hr hlk hB ⟨rfl, q, rfl⟩ (Nat.le_refl _) (by simp) dX2_init_15


theorem tRow_pl {cJ cy : ClassId} {r : Nat → Nat} {n : Nat} {f : Nat → va_E} (e : va_E) : va_pl ([] ++ (List.range n).map r) (vr_up f ((List.range n).map r) e) = (List.range n).map (fun i => (r i, e)) := by
  rw [← vr_rows (L := []) (fun a _ h => nomatch h)]
  show [] ++ ((List.range n).map r).map (fun a => (a, e)) = _
  rw [List.nil_append, List.map_map]
  rfl
set_option maxHeartbeats 4000000 in
theorem kX7_init {l : Launch} {D : va_G} {cI cJ cQ : ClassId} {adK adV tK : Nat → Nat} {b : Nat} {p0 : Int32} {N : Nat} (h0 : ¬ p0 < 0) (hN : p0.toNatClampNeg = N) (hby : N ≤ 100000) : gMetN l yX7_init qX7_init { frames := 1, cells := 1 + N, slots := N + N * 120, locals := 30 } (1 + N) (N + N * 120) D vwCl [(cI, .int), (cJ, .long), (cQ, .array .long)] (nKS adK adV tK) [.ref b, .int p0] [(b, .inr (7, [.null]))] (fun v w' => v = none ∧ ∃ (a : Nat) (r : Nat → Nat), w' = [(b, .inr (7, [.ref a])), (a, .inl (cQ, N, .inr (.inr (.inr (.inr (tOut (fun _ => r) 0 N))))))] ++ tRow cJ r N (fun _ _ => 0)) := by
  refine gMetN.of (cc := cX7_init) (maxL := 2) (ret := none) (by decide) rfl (Nat.le_of_ble_eq_true rfl) ?_
  intro p e s m args below meth c S hr hlk hnm hK hKS hA hB ls hl
  have hl : lv_has ls 2 [(0, .ref b), (1, .int p0)] := hl
  replace S : CallFix p m c cX7_init 2 s args (_ :: wsL_law) RX7 := S
  refine lv_aload_n S.1 S.2.1 dX7_init_0 rfl (lv_at hl 0 rfl) ?_
  refine gObj S (S.2.2.2.2 _ (List.mem_cons_of_mem _ wm_X7_3)) hl.1 (Nat.le_refl _) (Nat.le_of_ble_eq_true rfl) dX7_init_1 ?_
  refine lv_aload_n S.1 S.2.1 dX7_init_4 rfl (lv_at hl 0 rfl) ?_
  refine lv_iconst (v := 0) S.1 S.2.1 dX7_init_5 (by decide) ?_
  refine lv_iload_n S.1 S.2.1 dX7_init_6 rfl (lv_at hl 1 rfl) ?_
  refine va_mmax S.1 S.2.1 (S.2.2.1.trans hl.1.symm) S.2.2.2.1 (S.2.2.2.2 _ (List.mem_cons_of_mem _ wm_X7_9)) (S.2.2.2.2 _ (List.mem_cons_of_mem _ wo_static_Math_max_name)) (S.2.2.2.2 _ (List.mem_cons_of_mem _ wo_init_Math)) (S.2.2.2.2 _ (List.mem_cons_of_mem _ wo_code_Math_max_name)) (Nat.le_of_ble_eq_true rfl) (Nat.le_of_ble_eq_true rfl) (Nat.zero_le _) (Nat.zero_le _) dX7_init_7 ?_
  rw [gMax0 h0]
  refine lv_bipush (v := (120 : Int32)) S.1 S.2.1 dX7_init_10 (by decide) ?_
  have hB1 : gB D vwCl (va_A [(b, .inr (7, [.null]))] s.heap.size) s.heap [(b, .inr (7, [.null]))] (va_pl [] (fun _ => .inr (0, []))) s.heap [] := hB
  refine va_mna (L := []) (f := fun _ => .inr (0, [])) (ty := .long) (z := (120, .inr (.inl (fun _ => 0)))) (N' := N) (K' := 120) S.1 S.2.1 S.2.2.2.1 (S.2.2.2.2 _ (List.mem_cons_of_mem _ wl_X7_15)) hKS.2 (S.2.2.2.2 _ (List.mem_cons_of_mem _ wo_arr_long)) (hK.2 1 _ rfl).2 hK hB1.1 hB1.2.1 hB1.2.2 hA h0 (by decide) hN (by decide) (by omega) (by decide) (by decide) (by decide) (by decide) (by simp) (by simp) (fun c => ?_) dX7_init_12 (fun q r cA H1 hrr _ h1 h2 h3 h4 => ?_)
  · exact arrV_new _ _ _
  · cases gSame (i := 2) hK rfl h1
    rw [tRow_pl (cJ := cJ) (cy := cJ)] at h2 h3
    have hB : gB D vwCl (va_A [(b, .inr (7, [.null]))] s.heap.size) s.heap [(b, .inr (7, [.null]))] ([(q, .inl (cQ, N, .inr (.inr (.inr (.inr (tOut (fun _ => r) 0 N))))))] ++ tRow cJ r N (fun _ _ => 0)) H1 [] := ⟨by rw [← List.append_assoc]; exact h2, by rw [← List.append_assoc]; exact h3, h4⟩
    refine gPutF S hnm hK hB (fun w h => List.mem_cons_of_mem _ (inlX7 w h)) tyX7 tyX7_ok nmX7 0 rfl rfl 0 (by decide) (S.2.2.2.2 _ (List.mem_cons_of_mem _ wf_X7_17)) rfl rfl rfl rfl (Nat.le_of_ble_eq_true rfl) rfl dX7_init_16 (fun H locs hB => ?_)
    exact gRetN S.1 S.2.1 hr hlk hB ⟨rfl, q, r, rfl⟩ (by omega) (by omega) dX7_init_19


/-- the words of the text, packed -/
def FX9_pack_17 : Nat → Int32 → Int32 → Int64 → (Nat → Int64) → Option (Nat → Int64)
  | 0, _, _, _, _ => none
  | n+1, i, k, w, f =>
    (FJ0_length_8abf5 52).bind fun len =>
    if len ≤ i then some (putL 30 f k w)
    else (FJ0_charAt_5068e 52 i).bind fun ch =>
      if ch = (32 : Int32) then FX9_pack_17 n (i + (1 : Int32)) (k + (1 : Int32)) 0 (putL 30 f k w)
      else FX9_pack_17 n (i + (1 : Int32)) k (w * (256 : Int64) + ch.toInt64) f
def FX9_pack : Option (Nat → Int64) := FX9_pack_17 200 0 0 0 (fun _ => 0)
set_option maxRecDepth 100000 in
set_option maxHeartbeats 4000000 in
theorem kX9_pack {l : Launch} {D : va_G} {cI cJ cQ : ClassId} {adK adV tK : Nat → Nat} {kw : Nat → Int64} (hkw : FX9_pack = some kw) : gMetN l yX9_packKeywords qX9_packKeywords { frames := 6, cells := 2, slots := 31, locals := 200 } 2 31 D vwCl [(cI, .int), (cJ, .long), (cQ, .array .long)] (nKS adK adV tK) [] [] (fun v w' => ∃ b a : Nat, v = some (.ref b) ∧ w' = [(b, .inr (2, [.ref a])), (a, .inl (cJ, 30, .inr (.inl kw)))]) := by
  refine gMetN.of (cc := cX9_packKeywords) (maxL := 6) (ret := some (.object "PastWatch$Longs")) (by decide) rfl (Nat.le_of_ble_eq_true rfl) ?_
  intro p e s m args below meth c S hr hlk hnm hK hKS hA hB ls hl
  have hl : lv_has ls 6 [] := hl
  replace S : CallFix p m c cX9_packKeywords 6 s args (_ :: wsL_law) RX9 := S
  refine gNewO (ci := 2) (fs := [.null]) S hK hB hA (fun w h => List.mem_cons_of_mem _ (inlX2 w h)) tyX2 tyX2_ok (S.2.2.2.2 _ (List.mem_cons_of_mem _ wl_X9_35)) (S.2.2.2.2 _ (List.mem_cons_of_mem _ wa_X2)) (S.2.2.2.2 _ (List.mem_cons_of_mem _ wn_X2)) rfl (by decide) ⟨(Nat.le_of_ble_eq_true rfl), (Nat.le_of_ble_eq_true rfl)⟩ dX9_packKeywords_0 (fun q H hB => ?_)
  refine lv_dup S.1 S.2.1 dX9_packKeywords_3 rfl ?_
  refine lv_bipush (v := (30 : Int32)) S.1 S.2.1 dX9_packKeywords_4 (by decide) ?_
  refine gCallN S hK nKSc hKS hA (kX2_init (by decide) rfl (Nat.le_of_ble_eq_true rfl)) (cwI 1 S.2.2.2.2 (gWI wy_X2_init) rfl rfl rfl (S.2.2.2.2 _ (List.mem_cons_of_mem _ wn_X2)) (S.2.2.2.2 _ (List.mem_cons_of_mem _ wm_X9_37)) (S.2.2.2.2 _ (List.mem_cons_of_mem _ wi_X2_init)) rfl (by decide +kernel) ⟨(Nat.le_of_ble_eq_true rfl), (Nat.le_of_ble_eq_true rfl)⟩) hB rfl hl.1 rfl (lv_room (Nat.le_of_ble_eq_true rfl)) dX9_packKeywords_6 ⟨(Nat.le_of_ble_eq_true rfl), (Nat.le_of_ble_eq_true rfl)⟩ (fun v w2 H locs hP hB => ?_)
  obtain ⟨rfl, a, rfl⟩ := hP
  replace hB : gB D vwCl (va_A [] s.heap.size) s.heap [(q, .inr (2, [.ref a])), (a, .inl (cJ, 30, .inr (.inl (fun _ => 0))))] [] H locs := gEq hB rfl
  refine W.widen (k := 2) (n := 31) (Nat.le_of_ble_eq_true rfl) (Nat.le_of_ble_eq_true rfl) ?_
  refine lv_astore_n (lv' := [(0, .ref q)]) S.1 S.2.1 dX9_packKeywords_9 rfl hl (by decide) rfl (fun ls hl => ?_)
  refine lv_lconst (v := 0) S.1 S.2.1 dX9_packKeywords_10 (by decide) ?_
  refine lv_lstore_n (lv' := [(1, .long 0), (0, .ref q)]) S.1 S.2.1 dX9_packKeywords_11 rfl hl (by decide) rfl (fun ls hl => ?_)
  refine lv_iconst (v := 0) S.1 S.2.1 dX9_packKeywords_12 (by decide) ?_
  refine lv_istore_n (lv' := [(3, .int 0), (1, .long 0), (0, .ref q)]) S.1 S.2.1 dX9_packKeywords_13 rfl hl (by decide) rfl (fun ls hl => ?_)
  refine lv_iconst (v := 0) S.1 S.2.1 dX9_packKeywords_14 (by decide) ?_
  refine lv_istore (lv' := [(4, .int 0), (3, .int 0), (1, .long 0), (0, .ref q)]) S.1 S.2.1 dX9_packKeywords_15 hl (by decide) rfl (fun ls hl => ?_)
  have hT : mKS adK adV tK (va_A [] s.heap.size) s := hKS.1.1.1.1
  have hK2 := hK.sub (tys' := [(cI, .int), (cJ, .long)]) [0, 1] rfl
  have P : ∀ (n : Nat) (i k : Int32) (w : Int64) (f : Nat → Int64) (H : Heap) (locs : List Loc) (ls : Array Slot), FX9_pack_17 n i k w f = some kw → gB D vwCl (va_A [] s.heap.size) s.heap [(q, .inr (2, [.ref a])), (a, .inl (cJ, 30, .inr (.inl f)))] [] H locs → lv_has ls 6 [(4, .int i), (3, .int k), (1, .long w), (0, .ref q)] → W p l e { frames := 6, cells := 2, slots := 31, locals := 200 } s m args below meth c H locs 2 31 (MQ below (gQN D vwCl [] (fun v w' => ∃ b a : Nat, v = some (.ref b) ∧ w' = [(b, .inr (2, [.ref a])), (a, .inl (cJ, 30, .inr (.inl kw)))]) s.heap.size) args s 2 31 (va_A [] s.heap.size)) (F0 m 17 ls []) := by
    intro n
    induction n with
    | zero => intro i k w f H locs ls h; cases h
    | succ n ih =>
      intro i k w f H locs ls h hB hl
      rw [FX9_pack_17] at h
      obtain ⟨len, e1, h⟩ := bnd h
      refine lv_iload S.1 S.2.1 dX9_packKeywords_17 (lv_at hl 0 rfl) ?_
      refine va_ldcS S.1 S.2.1 S.2.2.2.1 (hT.2.1 (RX9, 41, "signal let value watch level not prev rise fall once always since and or implies is true false if then else old max min sum count at last time step", 52) (List.mem_of_getElem? (i := 52) rfl)) dX9_packKeywords_19 ?_
      refine mCallTI S hK2 mKSc hT hA (kJ0_length_8abf5 (by decide) e1) (cwX9_43 S.2.2.2.2 (rm := rmJ0_length_8abf5) rfl rfl ⟨Nat.le_of_ble_eq_true rfl, Nat.le_of_ble_eq_true rfl⟩) (sRecv hT.1 (by decide) hB.2.2) hB rfl hl.1 rfl (lv_room (Nat.le_of_ble_eq_true rfl)) dX9_packKeywords_21 ⟨Nat.le_refl _, Nat.le_refl _⟩ (fun H locs hB => ?_)
      refine lv_icmp_ge (tgt := 73) S.1 S.2.1 dX9_packKeywords_24 (by decide) (fun c_1 => ?_) (fun c_1 => ?_)
      · replace h := (if_pos c_1).symm.trans h
        cases h
        refine lv_aload_n S.1 S.2.1 dX9_packKeywords_73 rfl (lv_at hl 3 rfl) ?_
        refine lv_iload_n S.1 S.2.1 dX9_packKeywords_74 rfl (lv_at hl 1 rfl) ?_
        refine lv_lload_n S.1 S.2.1 dX9_packKeywords_75 rfl (lv_at hl 2 rfl) ?_
        refine gCallV (ci := 2) S hK nKSc hKS hA (kX2_put (by decide)) (cwX9_53 S.2.2.2.2 (rm := { frames := 0, cells := 0, slots := 0, locals := 0 }) rfl rfl ⟨Nat.le_of_ble_eq_true rfl, Nat.le_of_ble_eq_true rfl⟩) hB 0 rfl rfl rfl hl.1 rfl (lv_room (Nat.le_of_ble_eq_true rfl)) dX9_packKeywords_76 ⟨Nat.le_refl _, Nat.le_refl _⟩ (fun H locs hB => ?_)
        refine lv_aload_n S.1 S.2.1 dX9_packKeywords_79 rfl (lv_at hl 3 rfl) ?_
        exact W.aret S.1 S.2.1 hr (Or.inl ⟨_, rfl⟩) (Or.inr ⟨_, rfl⟩) (gEndN hB ⟨q, a, rfl, rfl⟩) hB.2.2.2.2 dX9_packKeywords_80 hlk
      · replace h := (if_neg c_1).symm.trans h
        obtain ⟨ch, e2, h⟩ := bnd h
        refine va_ldcS S.1 S.2.1 S.2.2.2.1 (hT.2.1 (RX9, 41, "signal let value watch level not prev rise fall once always since and or implies is true false if then else old max min sum count at last time step", 52) (List.mem_of_getElem? (i := 52) rfl)) dX9_packKeywords_27 ?_
        refine lv_iload S.1 S.2.1 dX9_packKeywords_29 (lv_at hl 0 rfl) ?_
        refine mCallTI S hK2 mKSc hT hA (kJ0_charAt_5068e (by decide) e2) (cwX9_49 S.2.2.2.2 (rm := rmJ0_charAt_5068e) rfl rfl ⟨Nat.le_of_ble_eq_true rfl, Nat.le_of_ble_eq_true rfl⟩) (sRecv hT.1 (by decide) hB.2.2) hB rfl hl.1 rfl (lv_room (Nat.le_of_ble_eq_true rfl)) dX9_packKeywords_31 ⟨Nat.le_refl _, Nat.le_refl _⟩ (fun H locs hB => ?_)
        refine lv_istore (lv' := [(5, .int ch), (4, .int i), (3, .int k), (1, .long w), (0, .ref q)]) S.1 S.2.1 dX9_packKeywords_34 hl (by decide) rfl (fun ls hl => ?_)
        refine lv_iload S.1 S.2.1 dX9_packKeywords_36 (lv_at hl 0 rfl) ?_
        refine lv_bipush (v := (32 : Int32)) S.1 S.2.1 dX9_packKeywords_38 (by decide) ?_
        refine lv_icmp_ne (tgt := 57) S.1 S.2.1 dX9_packKeywords_40 (by decide) (fun c_2 => ?_) (fun c_2 => ?_)
        · replace h := (if_neg c_2).symm.trans h
          refine lv_lload_n S.1 S.2.1 dX9_packKeywords_57 rfl (lv_at hl 3 rfl) ?_
          refine lv_ldc2 (v := 256) S.1 S.2.1 S.2.2.2.1 (S.2.2.2.2 _ (List.mem_cons_of_mem _ wk_X9_57)) dX9_packKeywords_58 ?_
          refine lv_lmul S.1 S.2.1 dX9_packKeywords_61 ?_
          refine lv_iload S.1 S.2.1 dX9_packKeywords_62 (lv_at hl 0 rfl) ?_
          refine lv_i2l (v := ch.toInt64) S.1 S.2.1 dX9_packKeywords_64 rfl ?_
          refine lv_ladd S.1 S.2.1 dX9_packKeywords_65 ?_
          refine lv_lstore_n (lv' := [(1, .long (w * (256 : Int64) + ch.toInt64)), (5, .int ch), (4, .int i), (3, .int k), (0, .ref q)]) S.1 S.2.1 dX9_packKeywords_66 rfl hl (by decide) rfl (fun ls hl => ?_)
          refine lv_iinc (v := i + (1 : Int32)) (lv' := [(4, .int (i + (1 : Int32))), (1, .long (w * (256 : Int64) + ch.toInt64)), (5, .int ch), (3, .int k), (0, .ref q)]) S.1 S.2.1 dX9_packKeywords_67 hl (k := 2) rfl rfl (by decide) rfl (fun ls hl => ?_)
          refine lv_goto (tgt := 17) S.1 S.2.1 dX9_packKeywords_70 (by decide) ?_
          exact ih _ _ _ _ _ _ _ h hB (lv_sub hl [0, 3, 1, 4] rfl)
        · replace h := (if_pos c_2).symm.trans h
          refine lv_aload_n S.1 S.2.1 dX9_packKeywords_43 rfl (lv_at hl 4 rfl) ?_
          refine lv_iload_n S.1 S.2.1 dX9_packKeywords_44 rfl (lv_at hl 2 rfl) ?_
          refine lv_lload_n S.1 S.2.1 dX9_packKeywords_45 rfl (lv_at hl 3 rfl) ?_
          refine gCallV (ci := 2) S hK nKSc hKS hA (kX2_put (by decide)) (cwX9_53 S.2.2.2.2 (rm := { frames := 0, cells := 0, slots := 0, locals := 0 }) rfl rfl ⟨Nat.le_of_ble_eq_true rfl, Nat.le_of_ble_eq_true rfl⟩) hB 0 rfl rfl rfl hl.1 rfl (lv_room (Nat.le_of_ble_eq_true rfl)) dX9_packKeywords_46 ⟨Nat.le_refl _, Nat.le_refl _⟩ (fun H locs hB => ?_)
          refine lv_iinc (v := k + (1 : Int32)) (lv' := [(3, .int (k + (1 : Int32))), (5, .int ch), (4, .int i), (1, .long w), (0, .ref q)]) S.1 S.2.1 dX9_packKeywords_49 hl (k := 2) rfl rfl (by decide) rfl (fun ls hl => ?_)
          refine lv_lconst (v := 0) S.1 S.2.1 dX9_packKeywords_52 (by decide) ?_
          refine lv_lstore_n (lv' := [(1, .long 0), (3, .int (k + (1 : Int32))), (5, .int ch), (4, .int i), (0, .ref q)]) S.1 S.2.1 dX9_packKeywords_53 rfl hl (by decide) rfl (fun ls hl => ?_)
          refine lv_goto (tgt := 67) S.1 S.2.1 dX9_packKeywords_54 (by decide) ?_
          refine lv_iinc (v := i + (1 : Int32)) (lv' := [(4, .int (i + (1 : Int32))), (1, .long 0), (3, .int (k + (1 : Int32))), (5, .int ch), (0, .ref q)]) S.1 S.2.1 dX9_packKeywords_67 hl (k := 3) rfl rfl (by decide) rfl (fun ls hl => ?_)
          refine lv_goto (tgt := 17) S.1 S.2.1 dX9_packKeywords_70 (by decide) ?_
          exact ih _ _ _ _ _ _ _ h hB (lv_sub hl [0, 2, 1, 4] rfl)
  exact P 200 0 0 0 _ _ _ _ hkw hB hl

abbrev rmX8_init : Room := { frames := 2, cells := 2, slots := 1801, locals := 51 }
set_option maxRecDepth 100000 in
set_option maxHeartbeats 4000000 in
theorem kX8_init {l : Launch} {D : va_G} {cI cJ cQ : ClassId} {adK adV tK : Nat → Nat} {b : Nat} : gMetN l yX8_init qX8_init rmX8_init 2 1801 D vwCl [(cI, .int), (cJ, .long), (cQ, .array .long)] (nKS adK adV tK) [.ref b] [(b, .inr (8, [.null, .int 0]))] (fun v w' => v = none ∧ ∃ (a0 : Nat) (a1 : Nat), w' = [(b, .inr (8, [.ref a0, .int 0])), (a0, .inr (1, [.ref a1])), (a1, .inl (cI, 1800, .inl (fun _ => 0)))]) := by
  refine gMetN.of (cc := cX8_init) (maxL := 1) (ret := none) (by decide) rfl (Nat.le_of_ble_eq_true rfl) ?_
  intro p e s m args below meth c S hr hlk hnm hK hKS hA hB ls hl
  have hl : lv_has ls 1 [(0, .ref b)] := hl
  replace S : CallFix p m c cX8_init 1 s args (_ :: wsL_law) RX8 := S
  refine lv_aload_n S.1 S.2.1 dX8_init_0 rfl (lv_at hl 0 rfl) ?_
  refine gObj S (S.2.2.2.2 _ (List.mem_cons_of_mem _ wm_X8_3)) hl.1 (Nat.le_of_ble_eq_true rfl) (Nat.le_of_ble_eq_true rfl) dX8_init_1 ?_
  refine lv_aload_n S.1 S.2.1 dX8_init_4 rfl (lv_at hl 0 rfl) ?_
  refine gNewO (ci := 1) (fs := [.null]) S hK hB hA (fun w h => List.mem_cons_of_mem _ (inlX1 w h)) tyX1 tyX1_ok (S.2.2.2.2 _ (List.mem_cons_of_mem _ wl_X8_9)) (S.2.2.2.2 _ (List.mem_cons_of_mem _ wa_X1)) (S.2.2.2.2 _ (List.mem_cons_of_mem _ wn_X1)) rfl (by decide) ⟨(Nat.le_of_ble_eq_true rfl), (Nat.le_of_ble_eq_true rfl)⟩ dX8_init_5 (fun q0 H hB => ?_)
  refine lv_dup S.1 S.2.1 dX8_init_8 rfl ?_
  refine lv_sipush (v := (1800 : Int32)) S.1 S.2.1 dX8_init_9 (by decide) ?_
  refine gCallN S hK nKSc hKS hA (kX1_init (by decide) rfl (Nat.le_of_ble_eq_true rfl)) (cwI 1 S.2.2.2.2 (gWI wy_X1_init) rfl rfl rfl (S.2.2.2.2 _ (List.mem_cons_of_mem _ wn_X1)) (S.2.2.2.2 _ (List.mem_cons_of_mem _ wm_X8_11)) (S.2.2.2.2 _ (List.mem_cons_of_mem _ wi_X1_init)) rfl (by decide +kernel) ⟨(Nat.le_of_ble_eq_true rfl), (Nat.le_of_ble_eq_true rfl)⟩) hB rfl hl.1 rfl (lv_room (Nat.le_of_ble_eq_true rfl)) dX8_init_12 ⟨(Nat.le_of_ble_eq_true rfl), (Nat.le_of_ble_eq_true rfl)⟩ (fun v w2 H locs hP hB => ?_)
  obtain ⟨rfl, a0_12, rfl⟩ := hP
  refine gPutF (w' := [(b, .inr (8, [.ref q0, .int 0]))]) S hnm hK hB (fun w h => List.mem_cons_of_mem _ (inlX8 w h)) tyX8 tyX8_ok nmX8 0 rfl rfl 0 (by decide) (S.2.2.2.2 _ (List.mem_cons_of_mem _ wf_X8_14)) rfl rfl rfl rfl (Nat.lt_of_lt_of_le (Nat.lt_succ_self 0) (Nat.le_of_ble_eq_true rfl)) rfl dX8_init_15 (fun H locs hB => ?_)
  exact gRetN S.1 S.2.1 hr hlk hB ⟨rfl, q0, a0_12, rfl⟩ (Nat.le_of_ble_eq_true rfl) (Nat.le_of_ble_eq_true rfl) dX8_init_18
abbrev rmX9_init : Room := { frames := 7, cells := 8, slots := 1237, locals := 225 }
set_option maxRecDepth 100000 in
set_option maxHeartbeats 4000000 in
theorem kX9_init {l : Launch} {D : va_G} {cI cJ cQ : ClassId} {adK adV tK : Nat → Nat} {b : Nat} {t1 : Nat} {kw : Nat → Int64} (hkw : FX9_pack = some kw) : gMetN l yX9_init qX9_init rmX9_init 8 1237 D vwCl [(cI, .int), (cJ, .long), (cQ, .array .long)] (nKS adK adV tK) [.ref b, .ref t1] [(b, .inr (9, [.null, .null, .null, .null, .null, .int 0]))] (fun v w' => v = none ∧ ∃ (a0 : Nat) (a1 : Nat) (a2 : Nat) (a3 : Nat) (a4 : Nat) (a5 : Nat) (a6 : Nat) (a7 : Nat), w' = [(b, .inr (9, [.ref t1, .ref a0, .ref a2, .ref a4, .ref a6, .int 0])), (a0, .inr (2, [.ref a1])), (a1, .inl (cJ, 30, .inr (.inl kw))), (a2, .inr (1, [.ref a3])), (a3, .inl (cI, 401, .inl (fun _ => 0))), (a4, .inr (1, [.ref a5])), (a5, .inl (cI, 401, .inl (fun _ => 0))), (a6, .inr (2, [.ref a7])), (a7, .inl (cJ, 401, .inr (.inl (fun _ => 0))))]) := by
  refine gMetN.of (cc := cX9_init) (maxL := 2) (ret := none) (by decide) rfl (Nat.le_of_ble_eq_true rfl) ?_
  intro p e s m args below meth c S hr hlk hnm hK hKS hA hB ls hl
  have hl : lv_has ls 2 [(0, .ref b), (1, .ref t1)] := hl
  replace S : CallFix p m c cX9_init 2 s args (_ :: wsL_law) RX9 := S
  refine lv_aload_n S.1 S.2.1 dX9_init_0 rfl (lv_at hl 0 rfl) ?_
  refine gObj S (S.2.2.2.2 _ (List.mem_cons_of_mem _ wm_X9_3)) hl.1 (Nat.le_of_ble_eq_true rfl) (Nat.le_of_ble_eq_true rfl) dX9_init_1 ?_
  refine lv_aload_n S.1 S.2.1 dX9_init_4 rfl (lv_at hl 0 rfl) ?_
  refine lv_aload_n S.1 S.2.1 dX9_init_5 rfl (lv_at hl 1 rfl) ?_
  refine gPutF (w' := [(b, .inr (9, [.ref t1, .null, .null, .null, .null, .int 0]))]) S hnm hK hB (fun w h => List.mem_cons_of_mem _ (inlX9 w h)) tyX9 tyX9_ok nmX9 0 rfl rfl 0 (by decide) (S.2.2.2.2 _ (List.mem_cons_of_mem _ wf_X9_9)) rfl rfl rfl rfl (Nat.lt_of_lt_of_le (Nat.lt_succ_self 0) (Nat.le_of_ble_eq_true rfl)) rfl dX9_init_6 (fun H locs hB => ?_)
  refine lv_aload_n S.1 S.2.1 dX9_init_9 rfl (lv_at hl 0 rfl) ?_
  refine gCallNS S hK nKSc hKS hA (kX9_pack hkw) ⟨callB_of 0 S.2.2.2.2 (gWI wy_X9_packKeywords) rfl rfl rfl (S.2.2.2.2 _ (List.mem_cons_of_mem _ wn_X9)) (S.2.2.2.2 _ (List.mem_cons_of_mem _ wm_X9_15)) (by decide +kernel) ⟨(Nat.le_of_ble_eq_true rfl), (Nat.le_of_ble_eq_true rfl)⟩, (S.2.2.2.2 _ (List.mem_cons_of_mem _ wst_X9_packKeywords))⟩ hB rfl hl.1 rfl (lv_room (Nat.le_of_ble_eq_true rfl)) dX9_init_10 ⟨(Nat.le_of_ble_eq_true rfl), (Nat.le_of_ble_eq_true rfl)⟩ (fun v w2 H locs hP hB => ?_)
  obtain ⟨b_10, a_10, rfl, rfl⟩ := hP
  refine gPutF (w' := [(b, .inr (9, [.ref t1, .ref b_10, .null, .null, .null, .int 0]))]) S hnm hK hB (fun w h => List.mem_cons_of_mem _ (inlX9 w h)) tyX9 tyX9_ok nmX9 0 rfl rfl 1 (by decide) (S.2.2.2.2 _ (List.mem_cons_of_mem _ wf_X9_19)) rfl rfl rfl rfl (Nat.lt_of_lt_of_le (Nat.lt_succ_self 1) (Nat.le_of_ble_eq_true rfl)) rfl dX9_init_13 (fun H locs hB => ?_)
  refine lv_aload_n S.1 S.2.1 dX9_init_16 rfl (lv_at hl 0 rfl) ?_
  refine gNewO (ci := 1) (fs := [.null]) S hK hB hA (fun w h => List.mem_cons_of_mem _ (inlX1 w h)) tyX1 tyX1_ok (S.2.2.2.2 _ (List.mem_cons_of_mem _ wl_X9_23)) (S.2.2.2.2 _ (List.mem_cons_of_mem _ wa_X1)) (S.2.2.2.2 _ (List.mem_cons_of_mem _ wn_X1)) rfl (by decide) ⟨(Nat.le_of_ble_eq_true rfl), (Nat.le_of_ble_eq_true rfl)⟩ dX9_init_17 (fun q0 H hB => ?_)
  refine lv_dup S.1 S.2.1 dX9_init_20 rfl ?_
  refine lv_sipush (v := (401 : Int32)) S.1 S.2.1 dX9_init_21 (by decide) ?_
  refine gCallN S hK nKSc hKS hA (kX1_init (by decide) rfl (Nat.le_of_ble_eq_true rfl)) (cwI 1 S.2.2.2.2 (gWI wy_X1_init) rfl rfl rfl (S.2.2.2.2 _ (List.mem_cons_of_mem _ wn_X1)) (S.2.2.2.2 _ (List.mem_cons_of_mem _ wm_X9_25)) (S.2.2.2.2 _ (List.mem_cons_of_mem _ wi_X1_init)) rfl (by decide +kernel) ⟨(Nat.le_of_ble_eq_true rfl), (Nat.le_of_ble_eq_true rfl)⟩) hB rfl hl.1 rfl (lv_room (Nat.le_of_ble_eq_true rfl)) dX9_init_24 ⟨(Nat.le_of_ble_eq_true rfl), (Nat.le_of_ble_eq_true rfl)⟩ (fun v w2 H locs hP hB => ?_)
  obtain ⟨rfl, a0_24, rfl⟩ := hP
  refine gPutF (w' := [(b, .inr (9, [.ref t1, .ref b_10, .ref q0, .null, .null, .int 0]))]) S hnm hK hB (fun w h => List.mem_cons_of_mem _ (inlX9 w h)) tyX9 tyX9_ok nmX9 0 rfl rfl 2 (by decide) (S.2.2.2.2 _ (List.mem_cons_of_mem _ wf_X9_28)) rfl rfl rfl rfl (Nat.lt_of_lt_of_le (Nat.lt_succ_self 2) (Nat.le_of_ble_eq_true rfl)) rfl dX9_init_27 (fun H locs hB => ?_)
  refine lv_aload_n S.1 S.2.1 dX9_init_30 rfl (lv_at hl 0 rfl) ?_
  refine gNewO (ci := 1) (fs := [.null]) S hK hB hA (fun w h => List.mem_cons_of_mem _ (inlX1 w h)) tyX1 tyX1_ok (S.2.2.2.2 _ (List.mem_cons_of_mem _ wl_X9_23)) (S.2.2.2.2 _ (List.mem_cons_of_mem _ wa_X1)) (S.2.2.2.2 _ (List.mem_cons_of_mem _ wn_X1)) rfl (by decide) ⟨(Nat.le_of_ble_eq_true rfl), (Nat.le_of_ble_eq_true rfl)⟩ dX9_init_31 (fun q1 H hB => ?_)
  refine lv_dup S.1 S.2.1 dX9_init_34 rfl ?_
  refine lv_sipush (v := (401 : Int32)) S.1 S.2.1 dX9_init_35 (by decide) ?_
  refine gCallN S hK nKSc hKS hA (kX1_init (by decide) rfl (Nat.le_of_ble_eq_true rfl)) (cwI 1 S.2.2.2.2 (gWI wy_X1_init) rfl rfl rfl (S.2.2.2.2 _ (List.mem_cons_of_mem _ wn_X1)) (S.2.2.2.2 _ (List.mem_cons_of_mem _ wm_X9_25)) (S.2.2.2.2 _ (List.mem_cons_of_mem _ wi_X1_init)) rfl (by decide +kernel) ⟨(Nat.le_of_ble_eq_true rfl), (Nat.le_of_ble_eq_true rfl)⟩) hB rfl hl.1 rfl (lv_room (Nat.le_of_ble_eq_true rfl)) dX9_init_38 ⟨(Nat.le_of_ble_eq_true rfl), (Nat.le_of_ble_eq_true rfl)⟩ (fun v w2 H locs hP hB => ?_)
  obtain ⟨rfl, a0_38, rfl⟩ := hP
  refine gPutF (w' := [(b, .inr (9, [.ref t1, .ref b_10, .ref q0, .ref q1, .null, .int 0]))]) S hnm hK hB (fun w h => List.mem_cons_of_mem _ (inlX9 w h)) tyX9 tyX9_ok nmX9 0 rfl rfl 3 (by decide) (S.2.2.2.2 _ (List.mem_cons_of_mem _ wf_X9_32)) rfl rfl rfl rfl (Nat.lt_of_lt_of_le (Nat.lt_succ_self 3) (Nat.le_of_ble_eq_true rfl)) rfl dX9_init_41 (fun H locs hB => ?_)
  refine lv_aload_n S.1 S.2.1 dX9_init_44 rfl (lv_at hl 0 rfl) ?_
  refine gNewO (ci := 2) (fs := [.null]) S hK hB hA (fun w h => List.mem_cons_of_mem _ (inlX2 w h)) tyX2 tyX2_ok (S.2.2.2.2 _ (List.mem_cons_of_mem _ wl_X9_35)) (S.2.2.2.2 _ (List.mem_cons_of_mem _ wa_X2)) (S.2.2.2.2 _ (List.mem_cons_of_mem _ wn_X2)) rfl (by decide) ⟨(Nat.le_of_ble_eq_true rfl), (Nat.le_of_ble_eq_true rfl)⟩ dX9_init_45 (fun q2 H hB => ?_)
  refine lv_dup S.1 S.2.1 dX9_init_48 rfl ?_
  refine lv_sipush (v := (401 : Int32)) S.1 S.2.1 dX9_init_49 (by decide) ?_
  refine gCallN S hK nKSc hKS hA (kX2_init (by decide) rfl (Nat.le_of_ble_eq_true rfl)) (cwI 1 S.2.2.2.2 (gWI wy_X2_init) rfl rfl rfl (S.2.2.2.2 _ (List.mem_cons_of_mem _ wn_X2)) (S.2.2.2.2 _ (List.mem_cons_of_mem _ wm_X9_37)) (S.2.2.2.2 _ (List.mem_cons_of_mem _ wi_X2_init)) rfl (by decide +kernel) ⟨(Nat.le_of_ble_eq_true rfl), (Nat.le_of_ble_eq_true rfl)⟩) hB rfl hl.1 rfl (lv_room (Nat.le_of_ble_eq_true rfl)) dX9_init_52 ⟨(Nat.le_of_ble_eq_true rfl), (Nat.le_of_ble_eq_true rfl)⟩ (fun v w2 H locs hP hB => ?_)
  obtain ⟨rfl, a0_52, rfl⟩ := hP
  refine gPutF (w' := [(b, .inr (9, [.ref t1, .ref b_10, .ref q0, .ref q1, .ref q2, .int 0]))]) S hnm hK hB (fun w h => List.mem_cons_of_mem _ (inlX9 w h)) tyX9 tyX9_ok nmX9 0 rfl rfl 4 (by decide) (S.2.2.2.2 _ (List.mem_cons_of_mem _ wf_X9_38)) rfl rfl rfl rfl (Nat.lt_of_lt_of_le (Nat.lt_succ_self 4) (Nat.le_of_ble_eq_true rfl)) rfl dX9_init_55 (fun H locs hB => ?_)
  exact gRetN S.1 S.2.1 hr hlk hB ⟨rfl, b_10, a_10, q0, a0_24, q1, a0_38, q2, a0_52, rfl⟩ (Nat.le_of_ble_eq_true rfl) (Nat.le_of_ble_eq_true rfl) dX9_init_58
abbrev rmX3_init : Room := { frames := 2, cells := 14, slots := 8407, locals := 51 }
set_option maxRecDepth 100000 in
set_option maxHeartbeats 4000000 in
theorem kX3_init {l : Launch} {D : va_G} {cI cJ cQ : ClassId} {adK adV tK : Nat → Nat} {b : Nat} : gMetN l yX3_init qX3_init rmX3_init 14 8407 D vwCl [(cI, .int), (cJ, .long), (cQ, .array .long)] (nKS adK adV tK) [.ref b] [(b, .inr (3, [.null, .null, .null, .null, .null, .null, .null, .int 0, .int 0]))] (fun v w' => v = none ∧ ∃ (a0 : Nat) (a1 : Nat) (a2 : Nat) (a3 : Nat) (a4 : Nat) (a5 : Nat) (a6 : Nat) (a7 : Nat) (a8 : Nat) (a9 : Nat) (a10 : Nat) (a11 : Nat) (a12 : Nat) (a13 : Nat), w' = [(b, .inr (3, [.ref a0, .ref a2, .ref a4, .ref a6, .ref a8, .ref a10, .ref a12, .int 0, .int 0])), (a0, .inr (1, [.ref a1])), (a1, .inl (cI, 1200, .inl (fun _ => 0))), (a2, .inr (1, [.ref a3])), (a3, .inl (cI, 1200, .inl (fun _ => 0))), (a4, .inr (1, [.ref a5])), (a5, .inl (cI, 1200, .inl (fun _ => 0))), (a6, .inr (1, [.ref a7])), (a7, .inl (cI, 1200, .inl (fun _ => 0))), (a8, .inr (1, [.ref a9])), (a9, .inl (cI, 1200, .inl (fun _ => 0))), (a10, .inr (1, [.ref a11])), (a11, .inl (cI, 1200, .inl (fun _ => 0))), (a12, .inr (1, [.ref a13])), (a13, .inl (cI, 1200, .inl (fun _ => 0)))]) := by
  refine gMetN.of (cc := cX3_init) (maxL := 1) (ret := none) (by decide) rfl (Nat.le_of_ble_eq_true rfl) ?_
  intro p e s m args below meth c S hr hlk hnm hK hKS hA hB ls hl
  have hl : lv_has ls 1 [(0, .ref b)] := hl
  replace S : CallFix p m c cX3_init 1 s args (_ :: wsL_law) RX3 := S
  refine lv_aload_n S.1 S.2.1 dX3_init_0 rfl (lv_at hl 0 rfl) ?_
  refine gObj S (S.2.2.2.2 _ (List.mem_cons_of_mem _ wm_X3_3)) hl.1 (Nat.le_of_ble_eq_true rfl) (Nat.le_of_ble_eq_true rfl) dX3_init_1 ?_
  refine lv_aload_n S.1 S.2.1 dX3_init_4 rfl (lv_at hl 0 rfl) ?_
  refine gNewO (ci := 1) (fs := [.null]) S hK hB hA (fun w h => List.mem_cons_of_mem _ (inlX1 w h)) tyX1 tyX1_ok (S.2.2.2.2 _ (List.mem_cons_of_mem _ wl_X3_9)) (S.2.2.2.2 _ (List.mem_cons_of_mem _ wa_X1)) (S.2.2.2.2 _ (List.mem_cons_of_mem _ wn_X1)) rfl (by decide) ⟨(Nat.le_of_ble_eq_true rfl), (Nat.le_of_ble_eq_true rfl)⟩ dX3_init_5 (fun q0 H hB => ?_)
  refine lv_dup S.1 S.2.1 dX3_init_8 rfl ?_
  refine lv_sipush (v := (1200 : Int32)) S.1 S.2.1 dX3_init_9 (by decide) ?_
  refine gCallN S hK nKSc hKS hA (kX1_init (by decide) rfl (Nat.le_of_ble_eq_true rfl)) (cwI 1 S.2.2.2.2 (gWI wy_X1_init) rfl rfl rfl (S.2.2.2.2 _ (List.mem_cons_of_mem _ wn_X1)) (S.2.2.2.2 _ (List.mem_cons_of_mem _ wm_X3_11)) (S.2.2.2.2 _ (List.mem_cons_of_mem _ wi_X1_init)) rfl (by decide +kernel) ⟨(Nat.le_of_ble_eq_true rfl), (Nat.le_of_ble_eq_true rfl)⟩) hB rfl hl.1 rfl (lv_room (Nat.le_of_ble_eq_true rfl)) dX3_init_12 ⟨(Nat.le_of_ble_eq_true rfl), (Nat.le_of_ble_eq_true rfl)⟩ (fun v w2 H locs hP hB => ?_)
  obtain ⟨rfl, a0_12, rfl⟩ := hP
  refine gPutF (w' := [(b, .inr (3, [.ref q0, .null, .null, .null, .null, .null, .null, .int 0, .int 0]))]) S hnm hK hB (fun w h => List.mem_cons_of_mem _ (inlX3 w h)) tyX3 tyX3_ok nmX3 0 rfl rfl 0 (by decide) (S.2.2.2.2 _ (List.mem_cons_of_mem _ wf_X3_14)) rfl rfl rfl rfl (Nat.lt_of_lt_of_le (Nat.lt_succ_self 0) (Nat.le_of_ble_eq_true rfl)) rfl dX3_init_15 (fun H locs hB => ?_)
  refine lv_aload_n S.1 S.2.1 dX3_init_18 rfl (lv_at hl 0 rfl) ?_
  refine gNewO (ci := 1) (fs := [.null]) S hK hB hA (fun w h => List.mem_cons_of_mem _ (inlX1 w h)) tyX1 tyX1_ok (S.2.2.2.2 _ (List.mem_cons_of_mem _ wl_X3_9)) (S.2.2.2.2 _ (List.mem_cons_of_mem _ wa_X1)) (S.2.2.2.2 _ (List.mem_cons_of_mem _ wn_X1)) rfl (by decide) ⟨(Nat.le_of_ble_eq_true rfl), (Nat.le_of_ble_eq_true rfl)⟩ dX3_init_19 (fun q1 H hB => ?_)
  refine lv_dup S.1 S.2.1 dX3_init_22 rfl ?_
  refine lv_sipush (v := (1200 : Int32)) S.1 S.2.1 dX3_init_23 (by decide) ?_
  refine gCallN S hK nKSc hKS hA (kX1_init (by decide) rfl (Nat.le_of_ble_eq_true rfl)) (cwI 1 S.2.2.2.2 (gWI wy_X1_init) rfl rfl rfl (S.2.2.2.2 _ (List.mem_cons_of_mem _ wn_X1)) (S.2.2.2.2 _ (List.mem_cons_of_mem _ wm_X3_11)) (S.2.2.2.2 _ (List.mem_cons_of_mem _ wi_X1_init)) rfl (by decide +kernel) ⟨(Nat.le_of_ble_eq_true rfl), (Nat.le_of_ble_eq_true rfl)⟩) hB rfl hl.1 rfl (lv_room (Nat.le_of_ble_eq_true rfl)) dX3_init_26 ⟨(Nat.le_of_ble_eq_true rfl), (Nat.le_of_ble_eq_true rfl)⟩ (fun v w2 H locs hP hB => ?_)
  obtain ⟨rfl, a0_26, rfl⟩ := hP
  refine gPutF (w' := [(b, .inr (3, [.ref q0, .ref q1, .null, .null, .null, .null, .null, .int 0, .int 0]))]) S hnm hK hB (fun w h => List.mem_cons_of_mem _ (inlX3 w h)) tyX3 tyX3_ok nmX3 0 rfl rfl 1 (by decide) (S.2.2.2.2 _ (List.mem_cons_of_mem _ wf_X3_20)) rfl rfl rfl rfl (Nat.lt_of_lt_of_le (Nat.lt_succ_self 1) (Nat.le_of_ble_eq_true rfl)) rfl dX3_init_29 (fun H locs hB => ?_)
  refine lv_aload_n S.1 S.2.1 dX3_init_32 rfl (lv_at hl 0 rfl) ?_
  refine gNewO (ci := 1) (fs := [.null]) S hK hB hA (fun w h => List.mem_cons_of_mem _ (inlX1 w h)) tyX1 tyX1_ok (S.2.2.2.2 _ (List.mem_cons_of_mem _ wl_X3_9)) (S.2.2.2.2 _ (List.mem_cons_of_mem _ wa_X1)) (S.2.2.2.2 _ (List.mem_cons_of_mem _ wn_X1)) rfl (by decide) ⟨(Nat.le_of_ble_eq_true rfl), (Nat.le_of_ble_eq_true rfl)⟩ dX3_init_33 (fun q2 H hB => ?_)
  refine lv_dup S.1 S.2.1 dX3_init_36 rfl ?_
  refine lv_sipush (v := (1200 : Int32)) S.1 S.2.1 dX3_init_37 (by decide) ?_
  refine gCallN S hK nKSc hKS hA (kX1_init (by decide) rfl (Nat.le_of_ble_eq_true rfl)) (cwI 1 S.2.2.2.2 (gWI wy_X1_init) rfl rfl rfl (S.2.2.2.2 _ (List.mem_cons_of_mem _ wn_X1)) (S.2.2.2.2 _ (List.mem_cons_of_mem _ wm_X3_11)) (S.2.2.2.2 _ (List.mem_cons_of_mem _ wi_X1_init)) rfl (by decide +kernel) ⟨(Nat.le_of_ble_eq_true rfl), (Nat.le_of_ble_eq_true rfl)⟩) hB rfl hl.1 rfl (lv_room (Nat.le_of_ble_eq_true rfl)) dX3_init_40 ⟨(Nat.le_of_ble_eq_true rfl), (Nat.le_of_ble_eq_true rfl)⟩ (fun v w2 H locs hP hB => ?_)
  obtain ⟨rfl, a0_40, rfl⟩ := hP
  refine gPutF (w' := [(b, .inr (3, [.ref q0, .ref q1, .ref q2, .null, .null, .null, .null, .int 0, .int 0]))]) S hnm hK hB (fun w h => List.mem_cons_of_mem _ (inlX3 w h)) tyX3 tyX3_ok nmX3 0 rfl rfl 2 (by decide) (S.2.2.2.2 _ (List.mem_cons_of_mem _ wf_X3_23)) rfl rfl rfl rfl (Nat.lt_of_lt_of_le (Nat.lt_succ_self 2) (Nat.le_of_ble_eq_true rfl)) rfl dX3_init_43 (fun H locs hB => ?_)
  refine lv_aload_n S.1 S.2.1 dX3_init_46 rfl (lv_at hl 0 rfl) ?_
  refine gNewO (ci := 1) (fs := [.null]) S hK hB hA (fun w h => List.mem_cons_of_mem _ (inlX1 w h)) tyX1 tyX1_ok (S.2.2.2.2 _ (List.mem_cons_of_mem _ wl_X3_9)) (S.2.2.2.2 _ (List.mem_cons_of_mem _ wa_X1)) (S.2.2.2.2 _ (List.mem_cons_of_mem _ wn_X1)) rfl (by decide) ⟨(Nat.le_of_ble_eq_true rfl), (Nat.le_of_ble_eq_true rfl)⟩ dX3_init_47 (fun q3 H hB => ?_)
  refine lv_dup S.1 S.2.1 dX3_init_50 rfl ?_
  refine lv_sipush (v := (1200 : Int32)) S.1 S.2.1 dX3_init_51 (by decide) ?_
  refine gCallN S hK nKSc hKS hA (kX1_init (by decide) rfl (Nat.le_of_ble_eq_true rfl)) (cwI 1 S.2.2.2.2 (gWI wy_X1_init) rfl rfl rfl (S.2.2.2.2 _ (List.mem_cons_of_mem _ wn_X1)) (S.2.2.2.2 _ (List.mem_cons_of_mem _ wm_X3_11)) (S.2.2.2.2 _ (List.mem_cons_of_mem _ wi_X1_init)) rfl (by decide +kernel) ⟨(Nat.le_of_ble_eq_true rfl), (Nat.le_of_ble_eq_true rfl)⟩) hB rfl hl.1 rfl (lv_room (Nat.le_of_ble_eq_true rfl)) dX3_init_54 ⟨(Nat.le_of_ble_eq_true rfl), (Nat.le_of_ble_eq_true rfl)⟩ (fun v w2 H locs hP hB => ?_)
  obtain ⟨rfl, a0_54, rfl⟩ := hP
  refine gPutF (w' := [(b, .inr (3, [.ref q0, .ref q1, .ref q2, .ref q3, .null, .null, .null, .int 0, .int 0]))]) S hnm hK hB (fun w h => List.mem_cons_of_mem _ (inlX3 w h)) tyX3 tyX3_ok nmX3 0 rfl rfl 3 (by decide) (S.2.2.2.2 _ (List.mem_cons_of_mem _ wf_X3_26)) rfl rfl rfl rfl (Nat.lt_of_lt_of_le (Nat.lt_succ_self 3) (Nat.le_of_ble_eq_true rfl)) rfl dX3_init_57 (fun H locs hB => ?_)
  refine lv_aload_n S.1 S.2.1 dX3_init_60 rfl (lv_at hl 0 rfl) ?_
  refine gNewO (ci := 1) (fs := [.null]) S hK hB hA (fun w h => List.mem_cons_of_mem _ (inlX1 w h)) tyX1 tyX1_ok (S.2.2.2.2 _ (List.mem_cons_of_mem _ wl_X3_9)) (S.2.2.2.2 _ (List.mem_cons_of_mem _ wa_X1)) (S.2.2.2.2 _ (List.mem_cons_of_mem _ wn_X1)) rfl (by decide) ⟨(Nat.le_of_ble_eq_true rfl), (Nat.le_of_ble_eq_true rfl)⟩ dX3_init_61 (fun q4 H hB => ?_)
  refine lv_dup S.1 S.2.1 dX3_init_64 rfl ?_
  refine lv_sipush (v := (1200 : Int32)) S.1 S.2.1 dX3_init_65 (by decide) ?_
  refine gCallN S hK nKSc hKS hA (kX1_init (by decide) rfl (Nat.le_of_ble_eq_true rfl)) (cwI 1 S.2.2.2.2 (gWI wy_X1_init) rfl rfl rfl (S.2.2.2.2 _ (List.mem_cons_of_mem _ wn_X1)) (S.2.2.2.2 _ (List.mem_cons_of_mem _ wm_X3_11)) (S.2.2.2.2 _ (List.mem_cons_of_mem _ wi_X1_init)) rfl (by decide +kernel) ⟨(Nat.le_of_ble_eq_true rfl), (Nat.le_of_ble_eq_true rfl)⟩) hB rfl hl.1 rfl (lv_room (Nat.le_of_ble_eq_true rfl)) dX3_init_68 ⟨(Nat.le_of_ble_eq_true rfl), (Nat.le_of_ble_eq_true rfl)⟩ (fun v w2 H locs hP hB => ?_)
  obtain ⟨rfl, a0_68, rfl⟩ := hP
  refine gPutF (w' := [(b, .inr (3, [.ref q0, .ref q1, .ref q2, .ref q3, .ref q4, .null, .null, .int 0, .int 0]))]) S hnm hK hB (fun w h => List.mem_cons_of_mem _ (inlX3 w h)) tyX3 tyX3_ok nmX3 0 rfl rfl 4 (by decide) (S.2.2.2.2 _ (List.mem_cons_of_mem _ wf_X3_29)) rfl rfl rfl rfl (Nat.lt_of_lt_of_le (Nat.lt_succ_self 4) (Nat.le_of_ble_eq_true rfl)) rfl dX3_init_71 (fun H locs hB => ?_)
  refine lv_aload_n S.1 S.2.1 dX3_init_74 rfl (lv_at hl 0 rfl) ?_
  refine gNewO (ci := 1) (fs := [.null]) S hK hB hA (fun w h => List.mem_cons_of_mem _ (inlX1 w h)) tyX1 tyX1_ok (S.2.2.2.2 _ (List.mem_cons_of_mem _ wl_X3_9)) (S.2.2.2.2 _ (List.mem_cons_of_mem _ wa_X1)) (S.2.2.2.2 _ (List.mem_cons_of_mem _ wn_X1)) rfl (by decide) ⟨(Nat.le_of_ble_eq_true rfl), (Nat.le_of_ble_eq_true rfl)⟩ dX3_init_75 (fun q5 H hB => ?_)
  refine lv_dup S.1 S.2.1 dX3_init_78 rfl ?_
  refine lv_sipush (v := (1200 : Int32)) S.1 S.2.1 dX3_init_79 (by decide) ?_
  refine gCallN S hK nKSc hKS hA (kX1_init (by decide) rfl (Nat.le_of_ble_eq_true rfl)) (cwI 1 S.2.2.2.2 (gWI wy_X1_init) rfl rfl rfl (S.2.2.2.2 _ (List.mem_cons_of_mem _ wn_X1)) (S.2.2.2.2 _ (List.mem_cons_of_mem _ wm_X3_11)) (S.2.2.2.2 _ (List.mem_cons_of_mem _ wi_X1_init)) rfl (by decide +kernel) ⟨(Nat.le_of_ble_eq_true rfl), (Nat.le_of_ble_eq_true rfl)⟩) hB rfl hl.1 rfl (lv_room (Nat.le_of_ble_eq_true rfl)) dX3_init_82 ⟨(Nat.le_of_ble_eq_true rfl), (Nat.le_of_ble_eq_true rfl)⟩ (fun v w2 H locs hP hB => ?_)
  obtain ⟨rfl, a0_82, rfl⟩ := hP
  refine gPutF (w' := [(b, .inr (3, [.ref q0, .ref q1, .ref q2, .ref q3, .ref q4, .ref q5, .null, .int 0, .int 0]))]) S hnm hK hB (fun w h => List.mem_cons_of_mem _ (inlX3 w h)) tyX3 tyX3_ok nmX3 0 rfl rfl 5 (by decide) (S.2.2.2.2 _ (List.mem_cons_of_mem _ wf_X3_32)) rfl rfl rfl rfl (Nat.lt_of_lt_of_le (Nat.lt_succ_self 5) (Nat.le_of_ble_eq_true rfl)) rfl dX3_init_85 (fun H locs hB => ?_)
  refine lv_aload_n S.1 S.2.1 dX3_init_88 rfl (lv_at hl 0 rfl) ?_
  refine gNewO (ci := 1) (fs := [.null]) S hK hB hA (fun w h => List.mem_cons_of_mem _ (inlX1 w h)) tyX1 tyX1_ok (S.2.2.2.2 _ (List.mem_cons_of_mem _ wl_X3_9)) (S.2.2.2.2 _ (List.mem_cons_of_mem _ wa_X1)) (S.2.2.2.2 _ (List.mem_cons_of_mem _ wn_X1)) rfl (by decide) ⟨(Nat.le_of_ble_eq_true rfl), (Nat.le_of_ble_eq_true rfl)⟩ dX3_init_89 (fun q6 H hB => ?_)
  refine lv_dup S.1 S.2.1 dX3_init_92 rfl ?_
  refine lv_sipush (v := (1200 : Int32)) S.1 S.2.1 dX3_init_93 (by decide) ?_
  refine gCallN S hK nKSc hKS hA (kX1_init (by decide) rfl (Nat.le_of_ble_eq_true rfl)) (cwI 1 S.2.2.2.2 (gWI wy_X1_init) rfl rfl rfl (S.2.2.2.2 _ (List.mem_cons_of_mem _ wn_X1)) (S.2.2.2.2 _ (List.mem_cons_of_mem _ wm_X3_11)) (S.2.2.2.2 _ (List.mem_cons_of_mem _ wi_X1_init)) rfl (by decide +kernel) ⟨(Nat.le_of_ble_eq_true rfl), (Nat.le_of_ble_eq_true rfl)⟩) hB rfl hl.1 rfl (lv_room (Nat.le_of_ble_eq_true rfl)) dX3_init_96 ⟨(Nat.le_of_ble_eq_true rfl), (Nat.le_of_ble_eq_true rfl)⟩ (fun v w2 H locs hP hB => ?_)
  obtain ⟨rfl, a0_96, rfl⟩ := hP
  refine gPutF (w' := [(b, .inr (3, [.ref q0, .ref q1, .ref q2, .ref q3, .ref q4, .ref q5, .ref q6, .int 0, .int 0]))]) S hnm hK hB (fun w h => List.mem_cons_of_mem _ (inlX3 w h)) tyX3 tyX3_ok nmX3 0 rfl rfl 6 (by decide) (S.2.2.2.2 _ (List.mem_cons_of_mem _ wf_X3_35)) rfl rfl rfl rfl (Nat.lt_of_lt_of_le (Nat.lt_succ_self 6) (Nat.le_of_ble_eq_true rfl)) rfl dX3_init_99 (fun H locs hB => ?_)
  exact gRetN S.1 S.2.1 hr hlk hB ⟨rfl, q0, a0_12, q1, a0_26, q2, a0_40, q3, a0_54, q4, a0_68, q5, a0_82, q6, a0_96, rfl⟩ (Nat.le_of_ble_eq_true rfl) (Nat.le_of_ble_eq_true rfl) dX3_init_102
abbrev rmX5_init : Room := { frames := 2, cells := 14, slots := 211, locals := 51 }
set_option maxRecDepth 100000 in
set_option maxHeartbeats 4000000 in
theorem kX5_init {l : Launch} {D : va_G} {cI cJ cQ : ClassId} {adK adV tK : Nat → Nat} {b : Nat} : gMetN l yX5_init qX5_init rmX5_init 14 211 D vwCl [(cI, .int), (cJ, .long), (cQ, .array .long)] (nKS adK adV tK) [.ref b] [(b, .inr (5, [.null, .null, .null, .null, .null, .null, .null, .int 0, .int 0, .int 0]))] (fun v w' => v = none ∧ ∃ (a0 : Nat) (a1 : Nat) (a2 : Nat) (a3 : Nat) (a4 : Nat) (a5 : Nat) (a6 : Nat) (a7 : Nat) (a8 : Nat) (a9 : Nat) (a10 : Nat) (a11 : Nat) (a12 : Nat) (a13 : Nat), w' = [(b, .inr (5, [.ref a0, .ref a2, .ref a4, .ref a6, .ref a8, .ref a10, .ref a12, .int 0, .int 0, .int 0])), (a0, .inr (2, [.ref a1])), (a1, .inl (cJ, 44, .inr (.inl (fun _ => 0)))), (a2, .inr (1, [.ref a3])), (a3, .inl (cI, 44, .inl (fun _ => 0))), (a4, .inr (1, [.ref a5])), (a5, .inl (cI, 44, .inl (fun _ => 0))), (a6, .inr (1, [.ref a7])), (a7, .inl (cI, 4, .inl (fun _ => 0))), (a8, .inr (1, [.ref a9])), (a9, .inl (cI, 48, .inl (fun _ => 0))), (a10, .inr (2, [.ref a11])), (a11, .inl (cJ, 8, .inr (.inl (fun _ => 0)))), (a12, .inr (1, [.ref a13])), (a13, .inl (cI, 12, .inl (fun _ => 0)))]) := by
  refine gMetN.of (cc := cX5_init) (maxL := 1) (ret := none) (by decide) rfl (Nat.le_of_ble_eq_true rfl) ?_
  intro p e s m args below meth c S hr hlk hnm hK hKS hA hB ls hl
  have hl : lv_has ls 1 [(0, .ref b)] := hl
  replace S : CallFix p m c cX5_init 1 s args (_ :: wsL_law) RX5 := S
  refine lv_aload_n S.1 S.2.1 dX5_init_0 rfl (lv_at hl 0 rfl) ?_
  refine gObj S (S.2.2.2.2 _ (List.mem_cons_of_mem _ wm_X5_3)) hl.1 (Nat.le_of_ble_eq_true rfl) (Nat.le_of_ble_eq_true rfl) dX5_init_1 ?_
  refine lv_aload_n S.1 S.2.1 dX5_init_4 rfl (lv_at hl 0 rfl) ?_
  refine gNewO (ci := 2) (fs := [.null]) S hK hB hA (fun w h => List.mem_cons_of_mem _ (inlX2 w h)) tyX2 tyX2_ok (S.2.2.2.2 _ (List.mem_cons_of_mem _ wl_X5_9)) (S.2.2.2.2 _ (List.mem_cons_of_mem _ wa_X2)) (S.2.2.2.2 _ (List.mem_cons_of_mem _ wn_X2)) rfl (by decide) ⟨(Nat.le_of_ble_eq_true rfl), (Nat.le_of_ble_eq_true rfl)⟩ dX5_init_5 (fun q0 H hB => ?_)
  refine lv_dup S.1 S.2.1 dX5_init_8 rfl ?_
  refine lv_bipush (v := (44 : Int32)) S.1 S.2.1 dX5_init_9 (by decide) ?_
  refine gCallN S hK nKSc hKS hA (kX2_init (by decide) rfl (Nat.le_of_ble_eq_true rfl)) (cwI 1 S.2.2.2.2 (gWI wy_X2_init) rfl rfl rfl (S.2.2.2.2 _ (List.mem_cons_of_mem _ wn_X2)) (S.2.2.2.2 _ (List.mem_cons_of_mem _ wm_X5_11)) (S.2.2.2.2 _ (List.mem_cons_of_mem _ wi_X2_init)) rfl (by decide +kernel) ⟨(Nat.le_of_ble_eq_true rfl), (Nat.le_of_ble_eq_true rfl)⟩) hB rfl hl.1 rfl (lv_room (Nat.le_of_ble_eq_true rfl)) dX5_init_11 ⟨(Nat.le_of_ble_eq_true rfl), (Nat.le_of_ble_eq_true rfl)⟩ (fun v w2 H locs hP hB => ?_)
  obtain ⟨rfl, a0_11, rfl⟩ := hP
  refine gPutF (w' := [(b, .inr (5, [.ref q0, .null, .null, .null, .null, .null, .null, .int 0, .int 0, .int 0]))]) S hnm hK hB (fun w h => List.mem_cons_of_mem _ (inlX5 w h)) tyX5 tyX5_ok nmX5 0 rfl rfl 0 (by decide) (S.2.2.2.2 _ (List.mem_cons_of_mem _ wf_X5_14)) rfl rfl rfl rfl (Nat.lt_of_lt_of_le (Nat.lt_succ_self 0) (Nat.le_of_ble_eq_true rfl)) rfl dX5_init_14 (fun H locs hB => ?_)
  refine lv_aload_n S.1 S.2.1 dX5_init_17 rfl (lv_at hl 0 rfl) ?_
  refine gNewO (ci := 1) (fs := [.null]) S hK hB hA (fun w h => List.mem_cons_of_mem _ (inlX1 w h)) tyX1 tyX1_ok (S.2.2.2.2 _ (List.mem_cons_of_mem _ wl_X5_20)) (S.2.2.2.2 _ (List.mem_cons_of_mem _ wa_X1)) (S.2.2.2.2 _ (List.mem_cons_of_mem _ wn_X1)) rfl (by decide) ⟨(Nat.le_of_ble_eq_true rfl), (Nat.le_of_ble_eq_true rfl)⟩ dX5_init_18 (fun q1 H hB => ?_)
  refine lv_dup S.1 S.2.1 dX5_init_21 rfl ?_
  refine lv_bipush (v := (44 : Int32)) S.1 S.2.1 dX5_init_22 (by decide) ?_
  refine gCallN S hK nKSc hKS hA (kX1_init (by decide) rfl (Nat.le_of_ble_eq_true rfl)) (cwI 1 S.2.2.2.2 (gWI wy_X1_init) rfl rfl rfl (S.2.2.2.2 _ (List.mem_cons_of_mem _ wn_X1)) (S.2.2.2.2 _ (List.mem_cons_of_mem _ wm_X5_22)) (S.2.2.2.2 _ (List.mem_cons_of_mem _ wi_X1_init)) rfl (by decide +kernel) ⟨(Nat.le_of_ble_eq_true rfl), (Nat.le_of_ble_eq_true rfl)⟩) hB rfl hl.1 rfl (lv_room (Nat.le_of_ble_eq_true rfl)) dX5_init_24 ⟨(Nat.le_of_ble_eq_true rfl), (Nat.le_of_ble_eq_true rfl)⟩ (fun v w2 H locs hP hB => ?_)
  obtain ⟨rfl, a0_24, rfl⟩ := hP
  refine gPutF (w' := [(b, .inr (5, [.ref q0, .ref q1, .null, .null, .null, .null, .null, .int 0, .int 0, .int 0]))]) S hnm hK hB (fun w h => List.mem_cons_of_mem _ (inlX5 w h)) tyX5 tyX5_ok nmX5 0 rfl rfl 1 (by decide) (S.2.2.2.2 _ (List.mem_cons_of_mem _ wf_X5_23)) rfl rfl rfl rfl (Nat.lt_of_lt_of_le (Nat.lt_succ_self 1) (Nat.le_of_ble_eq_true rfl)) rfl dX5_init_27 (fun H locs hB => ?_)
  refine lv_aload_n S.1 S.2.1 dX5_init_30 rfl (lv_at hl 0 rfl) ?_
  refine gNewO (ci := 1) (fs := [.null]) S hK hB hA (fun w h => List.mem_cons_of_mem _ (inlX1 w h)) tyX1 tyX1_ok (S.2.2.2.2 _ (List.mem_cons_of_mem _ wl_X5_20)) (S.2.2.2.2 _ (List.mem_cons_of_mem _ wa_X1)) (S.2.2.2.2 _ (List.mem_cons_of_mem _ wn_X1)) rfl (by decide) ⟨(Nat.le_of_ble_eq_true rfl), (Nat.le_of_ble_eq_true rfl)⟩ dX5_init_31 (fun q2 H hB => ?_)
  refine lv_dup S.1 S.2.1 dX5_init_34 rfl ?_
  refine lv_bipush (v := (44 : Int32)) S.1 S.2.1 dX5_init_35 (by decide) ?_
  refine gCallN S hK nKSc hKS hA (kX1_init (by decide) rfl (Nat.le_of_ble_eq_true rfl)) (cwI 1 S.2.2.2.2 (gWI wy_X1_init) rfl rfl rfl (S.2.2.2.2 _ (List.mem_cons_of_mem _ wn_X1)) (S.2.2.2.2 _ (List.mem_cons_of_mem _ wm_X5_22)) (S.2.2.2.2 _ (List.mem_cons_of_mem _ wi_X1_init)) rfl (by decide +kernel) ⟨(Nat.le_of_ble_eq_true rfl), (Nat.le_of_ble_eq_true rfl)⟩) hB rfl hl.1 rfl (lv_room (Nat.le_of_ble_eq_true rfl)) dX5_init_37 ⟨(Nat.le_of_ble_eq_true rfl), (Nat.le_of_ble_eq_true rfl)⟩ (fun v w2 H locs hP hB => ?_)
  obtain ⟨rfl, a0_37, rfl⟩ := hP
  refine gPutF (w' := [(b, .inr (5, [.ref q0, .ref q1, .ref q2, .null, .null, .null, .null, .int 0, .int 0, .int 0]))]) S hnm hK hB (fun w h => List.mem_cons_of_mem _ (inlX5 w h)) tyX5 tyX5_ok nmX5 0 rfl rfl 2 (by decide) (S.2.2.2.2 _ (List.mem_cons_of_mem _ wf_X5_27)) rfl rfl rfl rfl (Nat.lt_of_lt_of_le (Nat.lt_succ_self 2) (Nat.le_of_ble_eq_true rfl)) rfl dX5_init_40 (fun H locs hB => ?_)
  refine lv_aload_n S.1 S.2.1 dX5_init_43 rfl (lv_at hl 0 rfl) ?_
  refine gNewO (ci := 1) (fs := [.null]) S hK hB hA (fun w h => List.mem_cons_of_mem _ (inlX1 w h)) tyX1 tyX1_ok (S.2.2.2.2 _ (List.mem_cons_of_mem _ wl_X5_20)) (S.2.2.2.2 _ (List.mem_cons_of_mem _ wa_X1)) (S.2.2.2.2 _ (List.mem_cons_of_mem _ wn_X1)) rfl (by decide) ⟨(Nat.le_of_ble_eq_true rfl), (Nat.le_of_ble_eq_true rfl)⟩ dX5_init_44 (fun q3 H hB => ?_)
  refine lv_dup S.1 S.2.1 dX5_init_47 rfl ?_
  refine lv_iconst (v := (4 : Int32)) S.1 S.2.1 dX5_init_48 (by decide) ?_
  refine gCallN S hK nKSc hKS hA (kX1_init (by decide) rfl (Nat.le_of_ble_eq_true rfl)) (cwI 1 S.2.2.2.2 (gWI wy_X1_init) rfl rfl rfl (S.2.2.2.2 _ (List.mem_cons_of_mem _ wn_X1)) (S.2.2.2.2 _ (List.mem_cons_of_mem _ wm_X5_22)) (S.2.2.2.2 _ (List.mem_cons_of_mem _ wi_X1_init)) rfl (by decide +kernel) ⟨(Nat.le_of_ble_eq_true rfl), (Nat.le_of_ble_eq_true rfl)⟩) hB rfl hl.1 rfl (lv_room (Nat.le_of_ble_eq_true rfl)) dX5_init_49 ⟨(Nat.le_of_ble_eq_true rfl), (Nat.le_of_ble_eq_true rfl)⟩ (fun v w2 H locs hP hB => ?_)
  obtain ⟨rfl, a0_49, rfl⟩ := hP
  refine gPutF (w' := [(b, .inr (5, [.ref q0, .ref q1, .ref q2, .ref q3, .null, .null, .null, .int 0, .int 0, .int 0]))]) S hnm hK hB (fun w h => List.mem_cons_of_mem _ (inlX5 w h)) tyX5 tyX5_ok nmX5 0 rfl rfl 3 (by decide) (S.2.2.2.2 _ (List.mem_cons_of_mem _ wf_X5_30)) rfl rfl rfl rfl (Nat.lt_of_lt_of_le (Nat.lt_succ_self 3) (Nat.le_of_ble_eq_true rfl)) rfl dX5_init_52 (fun H locs hB => ?_)
  refine lv_aload_n S.1 S.2.1 dX5_init_55 rfl (lv_at hl 0 rfl) ?_
  refine gNewO (ci := 1) (fs := [.null]) S hK hB hA (fun w h => List.mem_cons_of_mem _ (inlX1 w h)) tyX1 tyX1_ok (S.2.2.2.2 _ (List.mem_cons_of_mem _ wl_X5_20)) (S.2.2.2.2 _ (List.mem_cons_of_mem _ wa_X1)) (S.2.2.2.2 _ (List.mem_cons_of_mem _ wn_X1)) rfl (by decide) ⟨(Nat.le_of_ble_eq_true rfl), (Nat.le_of_ble_eq_true rfl)⟩ dX5_init_56 (fun q4 H hB => ?_)
  refine lv_dup S.1 S.2.1 dX5_init_59 rfl ?_
  refine lv_bipush (v := (48 : Int32)) S.1 S.2.1 dX5_init_60 (by decide) ?_
  refine gCallN S hK nKSc hKS hA (kX1_init (by decide) rfl (Nat.le_of_ble_eq_true rfl)) (cwI 1 S.2.2.2.2 (gWI wy_X1_init) rfl rfl rfl (S.2.2.2.2 _ (List.mem_cons_of_mem _ wn_X1)) (S.2.2.2.2 _ (List.mem_cons_of_mem _ wm_X5_22)) (S.2.2.2.2 _ (List.mem_cons_of_mem _ wi_X1_init)) rfl (by decide +kernel) ⟨(Nat.le_of_ble_eq_true rfl), (Nat.le_of_ble_eq_true rfl)⟩) hB rfl hl.1 rfl (lv_room (Nat.le_of_ble_eq_true rfl)) dX5_init_62 ⟨(Nat.le_of_ble_eq_true rfl), (Nat.le_of_ble_eq_true rfl)⟩ (fun v w2 H locs hP hB => ?_)
  obtain ⟨rfl, a0_62, rfl⟩ := hP
  refine gPutF (w' := [(b, .inr (5, [.ref q0, .ref q1, .ref q2, .ref q3, .ref q4, .null, .null, .int 0, .int 0, .int 0]))]) S hnm hK hB (fun w h => List.mem_cons_of_mem _ (inlX5 w h)) tyX5 tyX5_ok nmX5 0 rfl rfl 4 (by decide) (S.2.2.2.2 _ (List.mem_cons_of_mem _ wf_X5_33)) rfl rfl rfl rfl (Nat.lt_of_lt_of_le (Nat.lt_succ_self 4) (Nat.le_of_ble_eq_true rfl)) rfl dX5_init_65 (fun H locs hB => ?_)
  refine lv_aload_n S.1 S.2.1 dX5_init_68 rfl (lv_at hl 0 rfl) ?_
  refine gNewO (ci := 2) (fs := [.null]) S hK hB hA (fun w h => List.mem_cons_of_mem _ (inlX2 w h)) tyX2 tyX2_ok (S.2.2.2.2 _ (List.mem_cons_of_mem _ wl_X5_9)) (S.2.2.2.2 _ (List.mem_cons_of_mem _ wa_X2)) (S.2.2.2.2 _ (List.mem_cons_of_mem _ wn_X2)) rfl (by decide) ⟨(Nat.le_of_ble_eq_true rfl), (Nat.le_of_ble_eq_true rfl)⟩ dX5_init_69 (fun q5 H hB => ?_)
  refine lv_dup S.1 S.2.1 dX5_init_72 rfl ?_
  refine lv_bipush (v := (8 : Int32)) S.1 S.2.1 dX5_init_73 (by decide) ?_
  refine gCallN S hK nKSc hKS hA (kX2_init (by decide) rfl (Nat.le_of_ble_eq_true rfl)) (cwI 1 S.2.2.2.2 (gWI wy_X2_init) rfl rfl rfl (S.2.2.2.2 _ (List.mem_cons_of_mem _ wn_X2)) (S.2.2.2.2 _ (List.mem_cons_of_mem _ wm_X5_11)) (S.2.2.2.2 _ (List.mem_cons_of_mem _ wi_X2_init)) rfl (by decide +kernel) ⟨(Nat.le_of_ble_eq_true rfl), (Nat.le_of_ble_eq_true rfl)⟩) hB rfl hl.1 rfl (lv_room (Nat.le_of_ble_eq_true rfl)) dX5_init_75 ⟨(Nat.le_of_ble_eq_true rfl), (Nat.le_of_ble_eq_true rfl)⟩ (fun v w2 H locs hP hB => ?_)
  obtain ⟨rfl, a0_75, rfl⟩ := hP
  refine gPutF (w' := [(b, .inr (5, [.ref q0, .ref q1, .ref q2, .ref q3, .ref q4, .ref q5, .null, .int 0, .int 0, .int 0]))]) S hnm hK hB (fun w h => List.mem_cons_of_mem _ (inlX5 w h)) tyX5 tyX5_ok nmX5 0 rfl rfl 5 (by decide) (S.2.2.2.2 _ (List.mem_cons_of_mem _ wf_X5_36)) rfl rfl rfl rfl (Nat.lt_of_lt_of_le (Nat.lt_succ_self 5) (Nat.le_of_ble_eq_true rfl)) rfl dX5_init_78 (fun H locs hB => ?_)
  refine lv_aload_n S.1 S.2.1 dX5_init_81 rfl (lv_at hl 0 rfl) ?_
  refine gNewO (ci := 1) (fs := [.null]) S hK hB hA (fun w h => List.mem_cons_of_mem _ (inlX1 w h)) tyX1 tyX1_ok (S.2.2.2.2 _ (List.mem_cons_of_mem _ wl_X5_20)) (S.2.2.2.2 _ (List.mem_cons_of_mem _ wa_X1)) (S.2.2.2.2 _ (List.mem_cons_of_mem _ wn_X1)) rfl (by decide) ⟨(Nat.le_of_ble_eq_true rfl), (Nat.le_of_ble_eq_true rfl)⟩ dX5_init_82 (fun q6 H hB => ?_)
  refine lv_dup S.1 S.2.1 dX5_init_85 rfl ?_
  refine lv_bipush (v := (12 : Int32)) S.1 S.2.1 dX5_init_86 (by decide) ?_
  refine gCallN S hK nKSc hKS hA (kX1_init (by decide) rfl (Nat.le_of_ble_eq_true rfl)) (cwI 1 S.2.2.2.2 (gWI wy_X1_init) rfl rfl rfl (S.2.2.2.2 _ (List.mem_cons_of_mem _ wn_X1)) (S.2.2.2.2 _ (List.mem_cons_of_mem _ wm_X5_22)) (S.2.2.2.2 _ (List.mem_cons_of_mem _ wi_X1_init)) rfl (by decide +kernel) ⟨(Nat.le_of_ble_eq_true rfl), (Nat.le_of_ble_eq_true rfl)⟩) hB rfl hl.1 rfl (lv_room (Nat.le_of_ble_eq_true rfl)) dX5_init_88 ⟨(Nat.le_of_ble_eq_true rfl), (Nat.le_of_ble_eq_true rfl)⟩ (fun v w2 H locs hP hB => ?_)
  obtain ⟨rfl, a0_88, rfl⟩ := hP
  refine gPutF (w' := [(b, .inr (5, [.ref q0, .ref q1, .ref q2, .ref q3, .ref q4, .ref q5, .ref q6, .int 0, .int 0, .int 0]))]) S hnm hK hB (fun w h => List.mem_cons_of_mem _ (inlX5 w h)) tyX5 tyX5_ok nmX5 0 rfl rfl 6 (by decide) (S.2.2.2.2 _ (List.mem_cons_of_mem _ wf_X5_39)) rfl rfl rfl rfl (Nat.lt_of_lt_of_le (Nat.lt_succ_self 6) (Nat.le_of_ble_eq_true rfl)) rfl dX5_init_91 (fun H locs hB => ?_)
  exact gRetN S.1 S.2.1 hr hlk hB ⟨rfl, q0, a0_11, q1, a0_24, q2, a0_37, q3, a0_49, q4, a0_62, q5, a0_75, q6, a0_88, rfl⟩ (Nat.le_of_ble_eq_true rfl) (Nat.le_of_ble_eq_true rfl) dX5_init_94
abbrev rmX4_init : Room := { frames := 1, cells := 0, slots := 0, locals := 12 }
set_option maxRecDepth 100000 in
set_option maxHeartbeats 4000000 in
theorem kX4_init {l : Launch} {D : va_G} {cI cJ cQ : ClassId} {adK adV tK : Nat → Nat} {b : Nat} {t1 : Nat} {t2 : Nat} {t3 : Nat} : gMetN l yX4_init qX4_init rmX4_init 0 0 D vwCl [(cI, .int), (cJ, .long), (cQ, .array .long)] (nKS adK adV tK) [.ref b, .ref t1, .ref t2, .ref t3] [(b, .inr (4, [.null, .null, .null, .int 0, .int 0, .int 0, .long 0, .int 0, .int 0, .int 0, .int 0, .int 0]))] (fun v w' => v = none ∧ w' = [(b, .inr (4, [.ref t1, .ref t2, .ref t3, .int 0, .int 0, .int 0, .long 0, .int 0, .int (-1 : Int32), .int 0, .int 0, .int 0]))]) := by
  refine gMetN.of (cc := cX4_init) (maxL := 4) (ret := none) (by decide) rfl (Nat.le_of_ble_eq_true rfl) ?_
  intro p e s m args below meth c S hr hlk hnm hK hKS hA hB ls hl
  have hl : lv_has ls 4 [(0, .ref b), (1, .ref t1), (2, .ref t2), (3, .ref t3)] := hl
  replace S : CallFix p m c cX4_init 4 s args (_ :: wsL_law) RX4 := S
  refine lv_aload_n S.1 S.2.1 dX4_init_0 rfl (lv_at hl 0 rfl) ?_
  refine gObj S (S.2.2.2.2 _ (List.mem_cons_of_mem _ wm_X4_3)) hl.1 (Nat.le_of_ble_eq_true rfl) (Nat.le_of_ble_eq_true rfl) dX4_init_1 ?_
  refine lv_aload_n S.1 S.2.1 dX4_init_4 rfl (lv_at hl 0 rfl) ?_
  refine lv_aload_n S.1 S.2.1 dX4_init_5 rfl (lv_at hl 1 rfl) ?_
  refine gPutF (w' := [(b, .inr (4, [.ref t1, .null, .null, .int 0, .int 0, .int 0, .long 0, .int 0, .int 0, .int 0, .int 0, .int 0]))]) S hnm hK hB (fun w h => List.mem_cons_of_mem _ (inlX4 w h)) tyX4 tyX4_ok nmX4 0 rfl rfl 0 (by decide) (S.2.2.2.2 _ (List.mem_cons_of_mem _ wf_X4_9)) rfl rfl rfl rfl (Nat.lt_of_lt_of_le (Nat.lt_succ_self 0) (Nat.le_of_ble_eq_true rfl)) rfl dX4_init_6 (fun H locs hB => ?_)
  refine lv_aload_n S.1 S.2.1 dX4_init_9 rfl (lv_at hl 0 rfl) ?_
  refine lv_aload_n S.1 S.2.1 dX4_init_10 rfl (lv_at hl 2 rfl) ?_
  refine gPutF (w' := [(b, .inr (4, [.ref t1, .ref t2, .null, .int 0, .int 0, .int 0, .long 0, .int 0, .int 0, .int 0, .int 0, .int 0]))]) S hnm hK hB (fun w h => List.mem_cons_of_mem _ (inlX4 w h)) tyX4 tyX4_ok nmX4 0 rfl rfl 1 (by decide) (S.2.2.2.2 _ (List.mem_cons_of_mem _ wf_X4_15)) rfl rfl rfl rfl (Nat.lt_of_lt_of_le (Nat.lt_succ_self 1) (Nat.le_of_ble_eq_true rfl)) rfl dX4_init_11 (fun H locs hB => ?_)
  refine lv_aload_n S.1 S.2.1 dX4_init_14 rfl (lv_at hl 0 rfl) ?_
  refine lv_aload_n S.1 S.2.1 dX4_init_15 rfl (lv_at hl 3 rfl) ?_
  refine gPutF (w' := [(b, .inr (4, [.ref t1, .ref t2, .ref t3, .int 0, .int 0, .int 0, .long 0, .int 0, .int 0, .int 0, .int 0, .int 0]))]) S hnm hK hB (fun w h => List.mem_cons_of_mem _ (inlX4 w h)) tyX4 tyX4_ok nmX4 0 rfl rfl 2 (by decide) (S.2.2.2.2 _ (List.mem_cons_of_mem _ wf_X4_19)) rfl rfl rfl rfl (Nat.lt_of_lt_of_le (Nat.lt_succ_self 2) (Nat.le_of_ble_eq_true rfl)) rfl dX4_init_16 (fun H locs hB => ?_)
  refine lv_aload_n S.1 S.2.1 dX4_init_19 rfl (lv_at hl 0 rfl) ?_
  refine lv_iconst (v := (-1 : Int32)) S.1 S.2.1 dX4_init_20 (by decide) ?_
  refine gPut (w' := [(b, .inr (4, [.ref t1, .ref t2, .ref t3, .int 0, .int 0, .int 0, .long 0, .int 0, .int (-1 : Int32), .int 0, .int 0, .int 0]))]) S hK hB (fun w h => List.mem_cons_of_mem _ (inlX4 w h)) tyX4 tyX4_ok nmX4 0 rfl rfl 8 (by decide) (S.2.2.2.2 _ (List.mem_cons_of_mem _ wf_X4_23)) rfl rfl rfl (Nat.lt_of_lt_of_le (Nat.lt_succ_self 8) (Nat.le_of_ble_eq_true rfl)) rfl dX4_init_21 (fun H locs hB => ?_)
  exact gRetN S.1 S.2.1 hr hlk hB ⟨rfl, rfl⟩ (Nat.le_of_ble_eq_true rfl) (Nat.le_of_ble_eq_true rfl) dX4_init_24
abbrev rmX0_init : Room := { frames := 2, cells := 12, slots := 1090, locals := 51 }
set_option maxRecDepth 100000 in
set_option maxHeartbeats 4000000 in
theorem kX0_init {l : Launch} {D : va_G} {cI cJ cQ : ClassId} {adK adV tK : Nat → Nat} {b : Nat} : gMetN l yX0_init qX0_init rmX0_init 12 1090 D vwCl [(cI, .int), (cJ, .long), (cQ, .array .long)] (nKS adK adV tK) [.ref b] [(b, .inr (0, [.null, .null, .int 0, .int 0]))] (fun v w' => v = none ∧ ∃ (a0 : Nat) (a1 : Nat) (a2 : Nat) (a3 : Nat) (r0 : Nat → Nat), w' = [(b, .inr (0, [.ref a0, .ref a2, .int 0, .int 0])), (a0, .inr (1, [.ref a1])), (a1, .inl (cI, 120, .inl (fun _ => 0))), (a2, .inr (7, [.ref a3])), (a3, .inl (cQ, 8, .inr (.inr (.inr (.inr (tOut (fun _ => r0) 0 8))))))] ++ tRow cJ r0 8 (fun _ _ => 0)) := by
  refine gMetN.of (cc := cX0_init) (maxL := 1) (ret := none) (by decide) rfl (Nat.le_of_ble_eq_true rfl) ?_
  intro p e s m args below meth c S hr hlk hnm hK hKS hA hB ls hl
  have hl : lv_has ls 1 [(0, .ref b)] := hl
  replace S : CallFix p m c cX0_init 1 s args (_ :: wsL_law) RX0 := S
  refine lv_aload_n S.1 S.2.1 dX0_init_0 rfl (lv_at hl 0 rfl) ?_
  refine gObj S (S.2.2.2.2 _ (List.mem_cons_of_mem _ wm_X0_3)) hl.1 (Nat.le_of_ble_eq_true rfl) (Nat.le_of_ble_eq_true rfl) dX0_init_1 ?_
  refine lv_aload_n S.1 S.2.1 dX0_init_4 rfl (lv_at hl 0 rfl) ?_
  refine gNewO (ci := 1) (fs := [.null]) S hK hB hA (fun w h => List.mem_cons_of_mem _ (inlX1 w h)) tyX1 tyX1_ok (S.2.2.2.2 _ (List.mem_cons_of_mem _ wl_X0_9)) (S.2.2.2.2 _ (List.mem_cons_of_mem _ wa_X1)) (S.2.2.2.2 _ (List.mem_cons_of_mem _ wn_X1)) rfl (by decide) ⟨(Nat.le_of_ble_eq_true rfl), (Nat.le_of_ble_eq_true rfl)⟩ dX0_init_5 (fun q0 H hB => ?_)
  refine lv_dup S.1 S.2.1 dX0_init_8 rfl ?_
  refine lv_bipush (v := (120 : Int32)) S.1 S.2.1 dX0_init_9 (by decide) ?_
  refine gCallN S hK nKSc hKS hA (kX1_init (by decide) rfl (Nat.le_of_ble_eq_true rfl)) (cwI 1 S.2.2.2.2 (gWI wy_X1_init) rfl rfl rfl (S.2.2.2.2 _ (List.mem_cons_of_mem _ wn_X1)) (S.2.2.2.2 _ (List.mem_cons_of_mem _ wm_X0_11)) (S.2.2.2.2 _ (List.mem_cons_of_mem _ wi_X1_init)) rfl (by decide +kernel) ⟨(Nat.le_of_ble_eq_true rfl), (Nat.le_of_ble_eq_true rfl)⟩) hB rfl hl.1 rfl (lv_room (Nat.le_of_ble_eq_true rfl)) dX0_init_11 ⟨(Nat.le_of_ble_eq_true rfl), (Nat.le_of_ble_eq_true rfl)⟩ (fun v w2 H locs hP hB => ?_)
  obtain ⟨rfl, a0_11, rfl⟩ := hP
  refine gPutF (w' := [(b, .inr (0, [.ref q0, .null, .int 0, .int 0]))]) S hnm hK hB (fun w h => List.mem_cons_of_mem _ (inlX0 w h)) tyX0 tyX0_ok nmX0 0 rfl rfl 0 (by decide) (S.2.2.2.2 _ (List.mem_cons_of_mem _ wf_X0_14)) rfl rfl rfl rfl (Nat.lt_of_lt_of_le (Nat.lt_succ_self 0) (Nat.le_of_ble_eq_true rfl)) rfl dX0_init_14 (fun H locs hB => ?_)
  refine lv_aload_n S.1 S.2.1 dX0_init_17 rfl (lv_at hl 0 rfl) ?_
  refine gNewO (ci := 7) (fs := [.null]) S hK hB hA (fun w h => List.mem_cons_of_mem _ (inlX7 w h)) tyX7 tyX7_ok (S.2.2.2.2 _ (List.mem_cons_of_mem _ wl_X0_20)) (S.2.2.2.2 _ (List.mem_cons_of_mem _ wa_X7)) (S.2.2.2.2 _ (List.mem_cons_of_mem _ wn_X7)) rfl (by decide) ⟨(Nat.le_of_ble_eq_true rfl), (Nat.le_of_ble_eq_true rfl)⟩ dX0_init_18 (fun q1 H hB => ?_)
  refine lv_dup S.1 S.2.1 dX0_init_21 rfl ?_
  refine lv_bipush (v := (8 : Int32)) S.1 S.2.1 dX0_init_22 (by decide) ?_
  refine gCallN S hK nKSc hKS hA (kX7_init (by decide) rfl (Nat.le_of_ble_eq_true rfl)) (cwI 1 S.2.2.2.2 (gWI wy_X7_init) rfl rfl rfl (S.2.2.2.2 _ (List.mem_cons_of_mem _ wn_X7)) (S.2.2.2.2 _ (List.mem_cons_of_mem _ wm_X0_22)) (S.2.2.2.2 _ (List.mem_cons_of_mem _ wi_X7_init)) rfl (by decide +kernel) ⟨(Nat.le_of_ble_eq_true rfl), (Nat.le_of_ble_eq_true rfl)⟩) hB rfl hl.1 rfl (lv_room (Nat.le_of_ble_eq_true rfl)) dX0_init_24 ⟨(Nat.le_of_ble_eq_true rfl), (Nat.le_of_ble_eq_true rfl)⟩ (fun v w2 H locs hP hB => ?_)
  obtain ⟨rfl, a0_24, r0_24, rfl⟩ := hP
  refine gPutF (w' := [(b, .inr (0, [.ref q0, .ref q1, .int 0, .int 0]))]) S hnm hK hB (fun w h => List.mem_cons_of_mem _ (inlX0 w h)) tyX0 tyX0_ok nmX0 0 rfl rfl 1 (by decide) (S.2.2.2.2 _ (List.mem_cons_of_mem _ wf_X0_23)) rfl rfl rfl rfl (Nat.lt_of_lt_of_le (Nat.lt_succ_self 1) (Nat.le_of_ble_eq_true rfl)) rfl dX0_init_27 (fun H locs hB => ?_)
  exact gRetN S.1 S.2.1 hr hlk hB ⟨rfl, q0, a0_11, q1, a0_24, r0_24, rfl⟩ (Nat.le_of_ble_eq_true rfl) (Nat.le_of_ble_eq_true rfl) dX0_init_30
abbrev rmX6_init : Room := { frames := 2, cells := 1202, slots := 145201, locals := 51 }
set_option maxRecDepth 100000 in
set_option maxHeartbeats 4000000 in
theorem kX6_init {l : Launch} {D : va_G} {cI cJ cQ : ClassId} {adK adV tK : Nat → Nat} {b : Nat} {t1 : Nat} {t2 : Nat} : gMetN l yX6_init qX6_init rmX6_init 1202 145201 D vwCl [(cI, .int), (cJ, .long), (cQ, .array .long)] (nKS adK adV tK) [.ref b, .ref t1, .ref t2] [(b, .inr (6, [.null, .null, .null, .int 0, .int 0]))] (fun v w' => v = none ∧ ∃ (a0 : Nat) (a1 : Nat) (r0 : Nat → Nat), w' = [(b, .inr (6, [.ref t1, .ref t2, .ref a0, .int 0, .int 0])), (a0, .inr (7, [.ref a1])), (a1, .inl (cQ, 1200, .inr (.inr (.inr (.inr (tOut (fun _ => r0) 0 1200))))))] ++ tRow cJ r0 1200 (fun _ _ => 0)) := by
  refine gMetN.of (cc := cX6_init) (maxL := 3) (ret := none) (by decide) rfl (Nat.le_of_ble_eq_true rfl) ?_
  intro p e s m args below meth c S hr hlk hnm hK hKS hA hB ls hl
  have hl : lv_has ls 3 [(0, .ref b), (1, .ref t1), (2, .ref t2)] := hl
  replace S : CallFix p m c cX6_init 3 s args (_ :: wsL_law) RX6 := S
  refine lv_aload_n S.1 S.2.1 dX6_init_0 rfl (lv_at hl 0 rfl) ?_
  refine gObj S (S.2.2.2.2 _ (List.mem_cons_of_mem _ wm_X6_3)) hl.1 (Nat.le_of_ble_eq_true rfl) (Nat.le_of_ble_eq_true rfl) dX6_init_1 ?_
  refine lv_aload_n S.1 S.2.1 dX6_init_4 rfl (lv_at hl 0 rfl) ?_
  refine gNewO (ci := 7) (fs := [.null]) S hK hB hA (fun w h => List.mem_cons_of_mem _ (inlX7 w h)) tyX7 tyX7_ok (S.2.2.2.2 _ (List.mem_cons_of_mem _ wl_X6_9)) (S.2.2.2.2 _ (List.mem_cons_of_mem _ wa_X7)) (S.2.2.2.2 _ (List.mem_cons_of_mem _ wn_X7)) rfl (by decide) ⟨(Nat.le_of_ble_eq_true rfl), (Nat.le_of_ble_eq_true rfl)⟩ dX6_init_5 (fun q0 H hB => ?_)
  refine lv_dup S.1 S.2.1 dX6_init_8 rfl ?_
  refine lv_sipush (v := (1200 : Int32)) S.1 S.2.1 dX6_init_9 (by decide) ?_
  refine gCallN S hK nKSc hKS hA (kX7_init (by decide) rfl (Nat.le_of_ble_eq_true rfl)) (cwI 1 S.2.2.2.2 (gWI wy_X7_init) rfl rfl rfl (S.2.2.2.2 _ (List.mem_cons_of_mem _ wn_X7)) (S.2.2.2.2 _ (List.mem_cons_of_mem _ wm_X6_11)) (S.2.2.2.2 _ (List.mem_cons_of_mem _ wi_X7_init)) rfl (by decide +kernel) ⟨(Nat.le_of_ble_eq_true rfl), (Nat.le_of_ble_eq_true rfl)⟩) hB rfl hl.1 rfl (lv_room (Nat.le_of_ble_eq_true rfl)) dX6_init_12 ⟨(Nat.le_of_ble_eq_true rfl), (Nat.le_of_ble_eq_true rfl)⟩ (fun v w2 H locs hP hB => ?_)
  obtain ⟨rfl, a0_12, r0_12, rfl⟩ := hP
  refine gPutF (w' := [(b, .inr (6, [.null, .null, .ref q0, .int 0, .int 0]))]) S hnm hK hB (fun w h => List.mem_cons_of_mem _ (inlX6 w h)) tyX6 tyX6_ok nmX6 0 rfl rfl 2 (by decide) (S.2.2.2.2 _ (List.mem_cons_of_mem _ wf_X6_14)) rfl rfl rfl rfl (Nat.lt_of_lt_of_le (Nat.lt_succ_self 2) (Nat.le_of_ble_eq_true rfl)) rfl dX6_init_15 (fun H locs hB => ?_)
  refine lv_aload_n S.1 S.2.1 dX6_init_18 rfl (lv_at hl 0 rfl) ?_
  refine lv_aload_n S.1 S.2.1 dX6_init_19 rfl (lv_at hl 1 rfl) ?_
  refine gPutF (w' := [(b, .inr (6, [.ref t1, .null, .ref q0, .int 0, .int 0]))]) S hnm hK hB (fun w h => List.mem_cons_of_mem _ (inlX6 w h)) tyX6 tyX6_ok nmX6 0 rfl rfl 0 (by decide) (S.2.2.2.2 _ (List.mem_cons_of_mem _ wf_X6_20)) rfl rfl rfl rfl (Nat.lt_of_lt_of_le (Nat.lt_succ_self 0) (Nat.le_of_ble_eq_true rfl)) rfl dX6_init_20 (fun H locs hB => ?_)
  refine lv_aload_n S.1 S.2.1 dX6_init_23 rfl (lv_at hl 0 rfl) ?_
  refine lv_aload_n S.1 S.2.1 dX6_init_24 rfl (lv_at hl 2 rfl) ?_
  refine gPutF (w' := [(b, .inr (6, [.ref t1, .ref t2, .ref q0, .int 0, .int 0]))]) S hnm hK hB (fun w h => List.mem_cons_of_mem _ (inlX6 w h)) tyX6 tyX6_ok nmX6 0 rfl rfl 1 (by decide) (S.2.2.2.2 _ (List.mem_cons_of_mem _ wf_X6_24)) rfl rfl rfl rfl (Nat.lt_of_lt_of_le (Nat.lt_succ_self 1) (Nat.le_of_ble_eq_true rfl)) rfl dX6_init_25 (fun H locs hB => ?_)
  exact gRetN S.1 S.2.1 hr hlk hB ⟨rfl, q0, a0_12, r0_12, rfl⟩ (Nat.le_of_ble_eq_true rfl) (Nat.le_of_ble_eq_true rfl) dX6_init_28

theorem cPerm {α : Type} {P a r b s c t d : List α} : ((((P ++ (a ++ r)) ++ (b ++ s)) ++ (c ++ t)) ++ d).Perm (((((P ++ a) ++ b) ++ c) ++ d) ++ ((r ++ s) ++ t)) := by
  simp only [List.append_assoc]
  refine List.Perm.append_left _ (List.Perm.append_left _ ?_)
  refine (List.perm_append_comm_assoc r b _).trans (List.Perm.append_left _ ?_)
  refine ((List.perm_append_comm_assoc s c _).append_left r).trans ((List.perm_append_comm_assoc r c _).trans (List.Perm.append_left _ ?_))
  refine (((List.perm_append_comm (l₁ := t) (l₂ := d)).append_left s).append_left r).trans ?_
  exact (((List.perm_append_comm_assoc s d t)).append_left r).trans (List.perm_append_comm_assoc r d _)

abbrev rmX10_init : Room := { frames := 8, cells := 1274, slots := 159098, locals := 246 }
set_option maxRecDepth 100000 in
set_option maxHeartbeats 4000000 in
theorem kX10_init {l : Launch} {D : va_G} {cI cJ cQ : ClassId} {adK adV tK : Nat → Nat} {b : Nat} {kw : Nat → Int64} (hkw : FX9_pack = some kw) : gMetN l yX10_init qX10_init rmX10_init 1274 159098 D vwCl [(cI, .int), (cJ, .long), (cQ, .array .long)] (nKS adK adV tK) [.ref b] [(b, .inr (10, [.null, .null, .null, .null, .null, .null, .null, .null, .null, .int 0, .int 0, .int 0, .int 0, .int 0]))] (fun v w' => v = none ∧ ∃ (a0 : Nat) (a1 : Nat) (a2 : Nat) (a3 : Nat) (a4 : Nat) (a5 : Nat) (a6 : Nat) (a7 : Nat) (a8 : Nat) (a9 : Nat) (a10 : Nat) (a11 : Nat) (a12 : Nat) (a13 : Nat) (a14 : Nat) (a15 : Nat) (a16 : Nat) (a17 : Nat) (a18 : Nat) (a19 : Nat) (a20 : Nat) (a21 : Nat) (a22 : Nat) (a23 : Nat) (a24 : Nat) (a25 : Nat) (a26 : Nat) (a27 : Nat) (a28 : Nat) (a29 : Nat) (a30 : Nat) (a31 : Nat) (a32 : Nat) (a33 : Nat) (a34 : Nat) (a35 : Nat) (a36 : Nat) (a37 : Nat) (a38 : Nat) (a39 : Nat) (a40 : Nat) (a41 : Nat) (a42 : Nat) (a43 : Nat) (a44 : Nat) (a45 : Nat) (a46 : Nat) (a47 : Nat) (r0 : Nat → Nat) (a48 : Nat) (a49 : Nat) (a50 : Nat) (a51 : Nat) (a52 : Nat) (r1 : Nat → Nat) (a53 : Nat) (a54 : Nat) (a55 : Nat) (r2 : Nat → Nat) (a56 : Nat) (a57 : Nat), w' = [(b, .inr (10, [.ref a0, .ref a3, .ref a12, .ref a27, .ref a42, .ref a43, .ref a48, .ref a53, .ref a56, .int (-1 : Int32), .int 0, .int 0, .int (400 : Int32), .int (400 : Int32)])), (a0, .inr (8, [.ref a1, .int 0])), (a1, .inr (1, [.ref a2])), (a2, .inl (cI, 1800, .inl (fun _ => 0))), (a3, .inr (9, [.ref a0, .ref a4, .ref a6, .ref a8, .ref a10, .int 0])), (a4, .inr (2, [.ref a5])), (a5, .inl (cJ, 30, .inr (.inl kw))), (a6, .inr (1, [.ref a7])), (a7, .inl (cI, 401, .inl (fun _ => 0))), (a8, .inr (1, [.ref a9])), (a9, .inl (cI, 401, .inl (fun _ => 0))), (a10, .inr (2, [.ref a11])), (a11, .inl (cJ, 401, .inr (.inl (fun _ => 0)))), (a12, .inr (3, [.ref a13, .ref a15, .ref a17, .ref a19, .ref a21, .ref a23, .ref a25, .int 0, .int 0])), (a13, .inr (1, [.ref a14])), (a14, .inl (cI, 1200, .inl (fun _ => 0))), (a15, .inr (1, [.ref a16])), (a16, .inl (cI, 1200, .inl (fun _ => 0))), (a17, .inr (1, [.ref a18])), (a18, .inl (cI, 1200, .inl (fun _ => 0))), (a19, .inr (1, [.ref a20])), (a20, .inl (cI, 1200, .inl (fun _ => 0))), (a21, .inr (1, [.ref a22])), (a22, .inl (cI, 1200, .inl (fun _ => 0))), (a23, .inr (1, [.ref a24])), (a24, .inl (cI, 1200, .inl (fun _ => 0))), (a25, .inr (1, [.ref a26])), (a26, .inl (cI, 1200, .inl (fun _ => 0))), (a27, .inr (5, [.ref a28, .ref a30, .ref a32, .ref a34, .ref a36, .ref a38, .ref a40, .int 0, .int 0, .int 0])), (a28, .inr (2, [.ref a29])), (a29, .inl (cJ, 44, .inr (.inl (fun _ => 0)))), (a30, .inr (1, [.ref a31])), (a31, .inl (cI, 44, .inl (fun _ => 0))), (a32, .inr (1, [.ref a33])), (a33, .inl (cI, 44, .inl (fun _ => 0))), (a34, .inr (1, [.ref a35])), (a35, .inl (cI, 4, .inl (fun _ => 0))), (a36, .inr (1, [.ref a37])), (a37, .inl (cI, 48, .inl (fun _ => 0))), (a38, .inr (2, [.ref a39])), (a39, .inl (cJ, 8, .inr (.inl (fun _ => 0)))), (a40, .inr (1, [.ref a41])), (a41, .inl (cI, 12, .inl (fun _ => 0))), (a42, .inr (4, [.ref a3, .ref a12, .ref a27, .int 0, .int 0, .int 0, .long 0, .int 0, .int (-1 : Int32), .int 0, .int 0, .int 0])), (a43, .inr (0, [.ref a44, .ref a46, .int 0, .int 0])), (a44, .inr (1, [.ref a45])), (a45, .inl (cI, 120, .inl (fun _ => 0))), (a46, .inr (7, [.ref a47])), (a47, .inl (cQ, 8, .inr (.inr (.inr (.inr (tOut (fun _ => r0) 0 8)))))), (a48, .inr (0, [.ref a49, .ref a51, .int 0, .int 0])), (a49, .inr (1, [.ref a50])), (a50, .inl (cI, 120, .inl (fun _ => 0))), (a51, .inr (7, [.ref a52])), (a52, .inl (cQ, 8, .inr (.inr (.inr (.inr (tOut (fun _ => r1) 0 8)))))), (a53, .inr (6, [.ref a12, .ref a43, .ref a54, .int 0, .int 0])), (a54, .inr (7, [.ref a55])), (a55, .inl (cQ, 1200, .inr (.inr (.inr (.inr (tOut (fun _ => r2) 0 1200)))))), (a56, .inr (2, [.ref a57])), (a57, .inl (cJ, 8, .inr (.inl (fun _ => 0))))] ++ tRow cJ r0 8 (fun _ _ => 0) ++ tRow cJ r1 8 (fun _ _ => 0) ++ tRow cJ r2 1200 (fun _ _ => 0)) := by
  refine gMetN.of (cc := cX10_init) (maxL := 1) (ret := none) (by decide) rfl (Nat.le_of_ble_eq_true rfl) ?_
  intro p e s m args below meth c S hr hlk hnm hK hKS hA hB ls hl
  have hl : lv_has ls 1 [(0, .ref b)] := hl
  replace S : CallFix p m c cX10_init 1 s args (_ :: wsL_law) RX10 := S
  refine lv_aload_n S.1 S.2.1 dX10_init_0 rfl (lv_at hl 0 rfl) ?_
  refine gObj S (S.2.2.2.2 _ (List.mem_cons_of_mem _ wm_X10_1)) hl.1 (Nat.le_of_ble_eq_true rfl) (Nat.le_of_ble_eq_true rfl) dX10_init_1 ?_
  refine lv_aload_n S.1 S.2.1 dX10_init_4 rfl (lv_at hl 0 rfl) ?_
  refine gNewO (ci := 8) (fs := [.null, .int 0]) S hK hB hA (fun w h => List.mem_cons_of_mem _ (inlX8 w h)) tyX8 tyX8_ok (S.2.2.2.2 _ (List.mem_cons_of_mem _ wl_X10_7)) (S.2.2.2.2 _ (List.mem_cons_of_mem _ wa_X8)) (S.2.2.2.2 _ (List.mem_cons_of_mem _ wn_X8)) rfl (by decide) ⟨(Nat.le_of_ble_eq_true rfl), (Nat.le_of_ble_eq_true rfl)⟩ dX10_init_5 (fun q0 H hB => ?_)
  refine lv_dup S.1 S.2.1 dX10_init_8 rfl ?_
  refine gCallNN S hK nKSc hKS hA kX8_init ⟨va_cnB 0 S.2.2.2.2 (gWI wy_X8_init) rfl rfl rfl (hKS.1.1.2.2 _ (List.mem_of_getElem? (i := 0) rfl)) (S.2.2.2.2 _ (List.mem_cons_of_mem _ wn_X8)) (by decide +kernel) ⟨(Nat.le_of_ble_eq_true rfl), (Nat.le_of_ble_eq_true rfl)⟩, rfl, (S.2.2.2.2 _ (List.mem_cons_of_mem _ wi_X8_init))⟩ hB rfl hl.1 rfl (lv_room (Nat.le_of_ble_eq_true rfl)) dX10_init_9 ⟨(Nat.le_of_ble_eq_true rfl), (Nat.le_of_ble_eq_true rfl)⟩ (fun v w2 H locs hP hB => ?_)
  obtain ⟨rfl, a0_9, a1_9, rfl⟩ := hP
  refine gPutF (w' := [(b, .inr (10, [.ref q0, .null, .null, .null, .null, .null, .null, .null, .null, .int 0, .int 0, .int 0, .int 0, .int 0]))]) S hnm hK hB (fun w h => List.mem_cons_of_mem _ (inlX10 w h)) tyX10 tyX10_ok nmX10 0 rfl rfl 0 (by decide) (S.2.2.2.2 _ (List.mem_cons_of_mem _ wf_X10_10)) rfl rfl rfl rfl (Nat.lt_of_lt_of_le (Nat.lt_succ_self 0) (Nat.le_of_ble_eq_true rfl)) rfl dX10_init_12 (fun H locs hB => ?_)
  refine lv_aload_n S.1 S.2.1 dX10_init_15 rfl (lv_at hl 0 rfl) ?_
  refine gNewO (ci := 9) (fs := [.null, .null, .null, .null, .null, .int 0]) S hK hB hA (fun w h => List.mem_cons_of_mem _ (inlX9 w h)) tyX9 tyX9_ok (S.2.2.2.2 _ (List.mem_cons_of_mem _ wl_X10_16)) (S.2.2.2.2 _ (List.mem_cons_of_mem _ wa_X9)) (S.2.2.2.2 _ (List.mem_cons_of_mem _ wn_X9)) rfl (by decide) ⟨(Nat.le_of_ble_eq_true rfl), (Nat.le_of_ble_eq_true rfl)⟩ dX10_init_16 (fun q1 H hB => ?_)
  refine lv_dup S.1 S.2.1 dX10_init_19 rfl ?_
  refine lv_aload_n S.1 S.2.1 dX10_init_20 rfl (lv_at hl 0 rfl) ?_
  refine gGet S hK hB (fun w h => List.mem_cons_of_mem _ (inlX10 w h)) 0 rfl rfl 0 (by decide) (S.2.2.2.2 _ (List.mem_cons_of_mem _ wf_X10_10)) rfl dX10_init_21 ?_
  refine gCallN S hK nKSc hKS hA (kX9_init hkw) (cwI 1 S.2.2.2.2 (gWI wy_X9_init) rfl rfl rfl (S.2.2.2.2 _ (List.mem_cons_of_mem _ wn_X9)) (S.2.2.2.2 _ (List.mem_cons_of_mem _ wm_X10_18)) (S.2.2.2.2 _ (List.mem_cons_of_mem _ wi_X9_init)) rfl (by decide +kernel) ⟨(Nat.le_of_ble_eq_true rfl), (Nat.le_of_ble_eq_true rfl)⟩) hB rfl hl.1 rfl (lv_room (Nat.le_of_ble_eq_true rfl)) dX10_init_24 ⟨(Nat.le_of_ble_eq_true rfl), (Nat.le_of_ble_eq_true rfl)⟩ (fun v w2 H locs hP hB => ?_)
  obtain ⟨rfl, a0_24, a1_24, a2_24, a3_24, a4_24, a5_24, a6_24, a7_24, rfl⟩ := hP
  refine gPutF (w' := [(b, .inr (10, [.ref q0, .ref q1, .null, .null, .null, .null, .null, .null, .null, .int 0, .int 0, .int 0, .int 0, .int 0]))]) S hnm hK hB (fun w h => List.mem_cons_of_mem _ (inlX10 w h)) tyX10 tyX10_ok nmX10 0 rfl rfl 1 (by decide) (S.2.2.2.2 _ (List.mem_cons_of_mem _ wf_X10_21)) rfl rfl rfl rfl (Nat.lt_of_lt_of_le (Nat.lt_succ_self 1) (Nat.le_of_ble_eq_true rfl)) rfl dX10_init_27 (fun H locs hB => ?_)
  refine lv_aload_n S.1 S.2.1 dX10_init_30 rfl (lv_at hl 0 rfl) ?_
  refine gNewO (ci := 3) (fs := [.null, .null, .null, .null, .null, .null, .null, .int 0, .int 0]) S hK hB hA (fun w h => List.mem_cons_of_mem _ (inlX3 w h)) tyX3 tyX3_ok (S.2.2.2.2 _ (List.mem_cons_of_mem _ wl_X10_25)) (S.2.2.2.2 _ (List.mem_cons_of_mem _ wa_X3)) (S.2.2.2.2 _ (List.mem_cons_of_mem _ wn_X3)) rfl (by decide) ⟨(Nat.le_of_ble_eq_true rfl), (Nat.le_of_ble_eq_true rfl)⟩ dX10_init_31 (fun q2 H hB => ?_)
  refine lv_dup S.1 S.2.1 dX10_init_34 rfl ?_
  refine gCallNN S hK nKSc hKS hA kX3_init ⟨va_cnB 0 S.2.2.2.2 (gWI wy_X3_init) rfl rfl rfl (hKS.1.1.2.2 _ (List.mem_of_getElem? (i := 1) rfl)) (S.2.2.2.2 _ (List.mem_cons_of_mem _ wn_X3)) (by decide +kernel) ⟨(Nat.le_of_ble_eq_true rfl), (Nat.le_of_ble_eq_true rfl)⟩, rfl, (S.2.2.2.2 _ (List.mem_cons_of_mem _ wi_X3_init))⟩ hB rfl hl.1 rfl (lv_room (Nat.le_of_ble_eq_true rfl)) dX10_init_35 ⟨(Nat.le_of_ble_eq_true rfl), (Nat.le_of_ble_eq_true rfl)⟩ (fun v w2 H locs hP hB => ?_)
  obtain ⟨rfl, a0_35, a1_35, a2_35, a3_35, a4_35, a5_35, a6_35, a7_35, a8_35, a9_35, a10_35, a11_35, a12_35, a13_35, rfl⟩ := hP
  refine gPutF (w' := [(b, .inr (10, [.ref q0, .ref q1, .ref q2, .null, .null, .null, .null, .null, .null, .int 0, .int 0, .int 0, .int 0, .int 0]))]) S hnm hK hB (fun w h => List.mem_cons_of_mem _ (inlX10 w h)) tyX10 tyX10_ok nmX10 0 rfl rfl 2 (by decide) (S.2.2.2.2 _ (List.mem_cons_of_mem _ wf_X10_28)) rfl rfl rfl rfl (Nat.lt_of_lt_of_le (Nat.lt_succ_self 2) (Nat.le_of_ble_eq_true rfl)) rfl dX10_init_38 (fun H locs hB => ?_)
  refine lv_aload_n S.1 S.2.1 dX10_init_41 rfl (lv_at hl 0 rfl) ?_
  refine gNewO (ci := 5) (fs := [.null, .null, .null, .null, .null, .null, .null, .int 0, .int 0, .int 0]) S hK hB hA (fun w h => List.mem_cons_of_mem _ (inlX5 w h)) tyX5 tyX5_ok (S.2.2.2.2 _ (List.mem_cons_of_mem _ wl_X10_32)) (S.2.2.2.2 _ (List.mem_cons_of_mem _ wa_X5)) (S.2.2.2.2 _ (List.mem_cons_of_mem _ wn_X5)) rfl (by decide) ⟨(Nat.le_of_ble_eq_true rfl), (Nat.le_of_ble_eq_true rfl)⟩ dX10_init_42 (fun q3 H hB => ?_)
  refine lv_dup S.1 S.2.1 dX10_init_45 rfl ?_
  refine gCallNN S hK nKSc hKS hA kX5_init ⟨va_cnB 0 S.2.2.2.2 (gWI wy_X5_init) rfl rfl rfl (hKS.1.1.2.2 _ (List.mem_of_getElem? (i := 2) rfl)) (S.2.2.2.2 _ (List.mem_cons_of_mem _ wn_X5)) (by decide +kernel) ⟨(Nat.le_of_ble_eq_true rfl), (Nat.le_of_ble_eq_true rfl)⟩, rfl, (S.2.2.2.2 _ (List.mem_cons_of_mem _ wi_X5_init))⟩ hB rfl hl.1 rfl (lv_room (Nat.le_of_ble_eq_true rfl)) dX10_init_46 ⟨(Nat.le_of_ble_eq_true rfl), (Nat.le_of_ble_eq_true rfl)⟩ (fun v w2 H locs hP hB => ?_)
  obtain ⟨rfl, a0_46, a1_46, a2_46, a3_46, a4_46, a5_46, a6_46, a7_46, a8_46, a9_46, a10_46, a11_46, a12_46, a13_46, rfl⟩ := hP
  refine gPutF (w' := [(b, .inr (10, [.ref q0, .ref q1, .ref q2, .ref q3, .null, .null, .null, .null, .null, .int 0, .int 0, .int 0, .int 0, .int 0]))]) S hnm hK hB (fun w h => List.mem_cons_of_mem _ (inlX10 w h)) tyX10 tyX10_ok nmX10 0 rfl rfl 3 (by decide) (S.2.2.2.2 _ (List.mem_cons_of_mem _ wf_X10_35)) rfl rfl rfl rfl (Nat.lt_of_lt_of_le (Nat.lt_succ_self 3) (Nat.le_of_ble_eq_true rfl)) rfl dX10_init_49 (fun H locs hB => ?_)
  refine lv_aload_n S.1 S.2.1 dX10_init_52 rfl (lv_at hl 0 rfl) ?_
  refine gNewO (ci := 4) (fs := [.null, .null, .null, .int 0, .int 0, .int 0, .long 0, .int 0, .int 0, .int 0, .int 0, .int 0]) S hK hB hA (fun w h => List.mem_cons_of_mem _ (inlX4 w h)) tyX4 tyX4_ok (S.2.2.2.2 _ (List.mem_cons_of_mem _ wl_X10_39)) (S.2.2.2.2 _ (List.mem_cons_of_mem _ wa_X4)) (S.2.2.2.2 _ (List.mem_cons_of_mem _ wn_X4)) rfl (by decide) ⟨(Nat.le_of_ble_eq_true rfl), (Nat.le_of_ble_eq_true rfl)⟩ dX10_init_53 (fun q4 H hB => ?_)
  refine lv_dup S.1 S.2.1 dX10_init_56 rfl ?_
  refine lv_aload_n S.1 S.2.1 dX10_init_57 rfl (lv_at hl 0 rfl) ?_
  refine gGet S hK hB (fun w h => List.mem_cons_of_mem _ (inlX10 w h)) 0 rfl rfl 1 (by decide) (S.2.2.2.2 _ (List.mem_cons_of_mem _ wf_X10_21)) rfl dX10_init_58 ?_
  refine lv_aload_n S.1 S.2.1 dX10_init_61 rfl (lv_at hl 0 rfl) ?_
  refine gGet S hK hB (fun w h => List.mem_cons_of_mem _ (inlX10 w h)) 0 rfl rfl 2 (by decide) (S.2.2.2.2 _ (List.mem_cons_of_mem _ wf_X10_28)) rfl dX10_init_62 ?_
  refine lv_aload_n S.1 S.2.1 dX10_init_65 rfl (lv_at hl 0 rfl) ?_
  refine gGet S hK hB (fun w h => List.mem_cons_of_mem _ (inlX10 w h)) 0 rfl rfl 3 (by decide) (S.2.2.2.2 _ (List.mem_cons_of_mem _ wf_X10_35)) rfl dX10_init_66 ?_
  refine gCallN S hK nKSc hKS hA kX4_init (cwI 3 S.2.2.2.2 (gWI wy_X4_init) rfl rfl rfl (S.2.2.2.2 _ (List.mem_cons_of_mem _ wn_X4)) (S.2.2.2.2 _ (List.mem_cons_of_mem _ wm_X10_41)) (S.2.2.2.2 _ (List.mem_cons_of_mem _ wi_X4_init)) rfl (by decide +kernel) ⟨(Nat.le_of_ble_eq_true rfl), (Nat.le_of_ble_eq_true rfl)⟩) hB rfl hl.1 rfl (lv_room (Nat.le_of_ble_eq_true rfl)) dX10_init_69 ⟨(Nat.le_of_ble_eq_true rfl), (Nat.le_of_ble_eq_true rfl)⟩ (fun v w2 H locs hP hB => ?_)
  obtain ⟨rfl, rfl⟩ := hP
  refine gPutF (w' := [(b, .inr (10, [.ref q0, .ref q1, .ref q2, .ref q3, .ref q4, .null, .null, .null, .null, .int 0, .int 0, .int 0, .int 0, .int 0]))]) S hnm hK hB (fun w h => List.mem_cons_of_mem _ (inlX10 w h)) tyX10 tyX10_ok nmX10 0 rfl rfl 4 (by decide) (S.2.2.2.2 _ (List.mem_cons_of_mem _ wf_X10_44)) rfl rfl rfl rfl (Nat.lt_of_lt_of_le (Nat.lt_succ_self 4) (Nat.le_of_ble_eq_true rfl)) rfl dX10_init_72 (fun H locs hB => ?_)
  refine lv_aload_n S.1 S.2.1 dX10_init_75 rfl (lv_at hl 0 rfl) ?_
  refine gNewO (ci := 0) (fs := [.null, .null, .int 0, .int 0]) S hK hB hA (fun w h => List.mem_cons_of_mem _ (inlX0 w h)) tyX0 tyX0_ok (S.2.2.2.2 _ (List.mem_cons_of_mem _ wl_X10_48)) (S.2.2.2.2 _ (List.mem_cons_of_mem _ wa_X0)) (S.2.2.2.2 _ (List.mem_cons_of_mem _ wn_X0)) rfl (by decide) ⟨(Nat.le_of_ble_eq_true rfl), (Nat.le_of_ble_eq_true rfl)⟩ dX10_init_76 (fun q5 H hB => ?_)
  refine lv_dup S.1 S.2.1 dX10_init_79 rfl ?_
  refine gCallNN S hK nKSc hKS hA kX0_init ⟨va_cnB 0 S.2.2.2.2 (gWI wy_X0_init) rfl rfl rfl (hKS.1.1.2.2 _ (List.mem_of_getElem? (i := 3) rfl)) (S.2.2.2.2 _ (List.mem_cons_of_mem _ wn_X0)) (by decide +kernel) ⟨(Nat.le_of_ble_eq_true rfl), (Nat.le_of_ble_eq_true rfl)⟩, rfl, (S.2.2.2.2 _ (List.mem_cons_of_mem _ wi_X0_init))⟩ hB rfl hl.1 rfl (lv_room (Nat.le_of_ble_eq_true rfl)) dX10_init_80 ⟨(Nat.le_of_ble_eq_true rfl), (Nat.le_of_ble_eq_true rfl)⟩ (fun v w2 H locs hP hB => ?_)
  obtain ⟨rfl, a0_80, a1_80, a2_80, a3_80, r0_80, rfl⟩ := hP
  refine gPutF (w' := [(b, .inr (10, [.ref q0, .ref q1, .ref q2, .ref q3, .ref q4, .ref q5, .null, .null, .null, .int 0, .int 0, .int 0, .int 0, .int 0]))]) S hnm hK hB (fun w h => List.mem_cons_of_mem _ (inlX10 w h)) tyX10 tyX10_ok nmX10 0 rfl rfl 5 (by decide) (S.2.2.2.2 _ (List.mem_cons_of_mem _ wf_X10_51)) rfl rfl rfl rfl (Nat.lt_of_lt_of_le (Nat.lt_succ_self 5) (Nat.le_of_ble_eq_true rfl)) rfl dX10_init_83 (fun H locs hB => ?_)
  refine lv_aload_n S.1 S.2.1 dX10_init_86 rfl (lv_at hl 0 rfl) ?_
  refine gNewO (ci := 0) (fs := [.null, .null, .int 0, .int 0]) S hK hB hA (fun w h => List.mem_cons_of_mem _ (inlX0 w h)) tyX0 tyX0_ok (S.2.2.2.2 _ (List.mem_cons_of_mem _ wl_X10_48)) (S.2.2.2.2 _ (List.mem_cons_of_mem _ wa_X0)) (S.2.2.2.2 _ (List.mem_cons_of_mem _ wn_X0)) rfl (by decide) ⟨(Nat.le_of_ble_eq_true rfl), (Nat.le_of_ble_eq_true rfl)⟩ dX10_init_87 (fun q6 H hB => ?_)
  refine lv_dup S.1 S.2.1 dX10_init_90 rfl ?_
  refine gCallNN S hK nKSc hKS hA kX0_init ⟨va_cnB 0 S.2.2.2.2 (gWI wy_X0_init) rfl rfl rfl (hKS.1.1.2.2 _ (List.mem_of_getElem? (i := 3) rfl)) (S.2.2.2.2 _ (List.mem_cons_of_mem _ wn_X0)) (by decide +kernel) ⟨(Nat.le_of_ble_eq_true rfl), (Nat.le_of_ble_eq_true rfl)⟩, rfl, (S.2.2.2.2 _ (List.mem_cons_of_mem _ wi_X0_init))⟩ hB rfl hl.1 rfl (lv_room (Nat.le_of_ble_eq_true rfl)) dX10_init_91 ⟨(Nat.le_of_ble_eq_true rfl), (Nat.le_of_ble_eq_true rfl)⟩ (fun v w2 H locs hP hB => ?_)
  obtain ⟨rfl, a0_91, a1_91, a2_91, a3_91, r0_91, rfl⟩ := hP
  refine gPutF (w' := [(b, .inr (10, [.ref q0, .ref q1, .ref q2, .ref q3, .ref q4, .ref q5, .ref q6, .null, .null, .int 0, .int 0, .int 0, .int 0, .int 0]))]) S hnm hK hB (fun w h => List.mem_cons_of_mem _ (inlX10 w h)) tyX10 tyX10_ok nmX10 0 rfl rfl 6 (by decide) (S.2.2.2.2 _ (List.mem_cons_of_mem _ wf_X10_55)) rfl rfl rfl rfl (Nat.lt_of_lt_of_le (Nat.lt_succ_self 6) (Nat.le_of_ble_eq_true rfl)) rfl dX10_init_94 (fun H locs hB => ?_)
  refine lv_aload_n S.1 S.2.1 dX10_init_97 rfl (lv_at hl 0 rfl) ?_
  refine gNewO (ci := 6) (fs := [.null, .null, .null, .int 0, .int 0]) S hK hB hA (fun w h => List.mem_cons_of_mem _ (inlX6 w h)) tyX6 tyX6_ok (S.2.2.2.2 _ (List.mem_cons_of_mem _ wl_X10_58)) (S.2.2.2.2 _ (List.mem_cons_of_mem _ wa_X6)) (S.2.2.2.2 _ (List.mem_cons_of_mem _ wn_X6)) rfl (by decide) ⟨(Nat.le_of_ble_eq_true rfl), (Nat.le_of_ble_eq_true rfl)⟩ dX10_init_98 (fun q7 H hB => ?_)
  refine lv_dup S.1 S.2.1 dX10_init_101 rfl ?_
  refine lv_aload_n S.1 S.2.1 dX10_init_102 rfl (lv_at hl 0 rfl) ?_
  refine gGet S hK hB (fun w h => List.mem_cons_of_mem _ (inlX10 w h)) 0 rfl rfl 2 (by decide) (S.2.2.2.2 _ (List.mem_cons_of_mem _ wf_X10_28)) rfl dX10_init_103 ?_
  refine lv_aload_n S.1 S.2.1 dX10_init_106 rfl (lv_at hl 0 rfl) ?_
  refine gGet S hK hB (fun w h => List.mem_cons_of_mem _ (inlX10 w h)) 0 rfl rfl 5 (by decide) (S.2.2.2.2 _ (List.mem_cons_of_mem _ wf_X10_51)) rfl dX10_init_107 ?_
  refine gCallN S hK nKSc hKS hA kX6_init (cwI 2 S.2.2.2.2 (gWI wy_X6_init) rfl rfl rfl (S.2.2.2.2 _ (List.mem_cons_of_mem _ wn_X6)) (S.2.2.2.2 _ (List.mem_cons_of_mem _ wm_X10_60)) (S.2.2.2.2 _ (List.mem_cons_of_mem _ wi_X6_init)) rfl (by decide +kernel) ⟨(Nat.le_of_ble_eq_true rfl), (Nat.le_of_ble_eq_true rfl)⟩) hB rfl hl.1 rfl (lv_room (Nat.le_of_ble_eq_true rfl)) dX10_init_110 ⟨(Nat.le_of_ble_eq_true rfl), (Nat.le_of_ble_eq_true rfl)⟩ (fun v w2 H locs hP hB => ?_)
  obtain ⟨rfl, a0_110, a1_110, r0_110, rfl⟩ := hP
  refine gPutF (w' := [(b, .inr (10, [.ref q0, .ref q1, .ref q2, .ref q3, .ref q4, .ref q5, .ref q6, .ref q7, .null, .int 0, .int 0, .int 0, .int 0, .int 0]))]) S hnm hK hB (fun w h => List.mem_cons_of_mem _ (inlX10 w h)) tyX10 tyX10_ok nmX10 0 rfl rfl 7 (by decide) (S.2.2.2.2 _ (List.mem_cons_of_mem _ wf_X10_63)) rfl rfl rfl rfl (Nat.lt_of_lt_of_le (Nat.lt_succ_self 7) (Nat.le_of_ble_eq_true rfl)) rfl dX10_init_113 (fun H locs hB => ?_)
  refine lv_aload_n S.1 S.2.1 dX10_init_116 rfl (lv_at hl 0 rfl) ?_
  refine gNewO (ci := 2) (fs := [.null]) S hK hB hA (fun w h => List.mem_cons_of_mem _ (inlX2 w h)) tyX2 tyX2_ok (S.2.2.2.2 _ (List.mem_cons_of_mem _ wl_X10_67)) (S.2.2.2.2 _ (List.mem_cons_of_mem _ wa_X2)) (S.2.2.2.2 _ (List.mem_cons_of_mem _ wn_X2)) rfl (by decide) ⟨(Nat.le_of_ble_eq_true rfl), (Nat.le_of_ble_eq_true rfl)⟩ dX10_init_117 (fun q8 H hB => ?_)
  refine lv_dup S.1 S.2.1 dX10_init_120 rfl ?_
  refine lv_bipush (v := (8 : Int32)) S.1 S.2.1 dX10_init_121 (by decide) ?_
  refine gCallN S hK nKSc hKS hA (kX2_init (by decide) rfl (Nat.le_of_ble_eq_true rfl)) (cwI 1 S.2.2.2.2 (gWI wy_X2_init) rfl rfl rfl (S.2.2.2.2 _ (List.mem_cons_of_mem _ wn_X2)) (S.2.2.2.2 _ (List.mem_cons_of_mem _ wm_X10_69)) (S.2.2.2.2 _ (List.mem_cons_of_mem _ wi_X2_init)) rfl (by decide +kernel) ⟨(Nat.le_of_ble_eq_true rfl), (Nat.le_of_ble_eq_true rfl)⟩) hB rfl hl.1 rfl (lv_room (Nat.le_of_ble_eq_true rfl)) dX10_init_123 ⟨(Nat.le_of_ble_eq_true rfl), (Nat.le_of_ble_eq_true rfl)⟩ (fun v w2 H locs hP hB => ?_)
  obtain ⟨rfl, a0_123, rfl⟩ := hP
  refine gPutF (w' := [(b, .inr (10, [.ref q0, .ref q1, .ref q2, .ref q3, .ref q4, .ref q5, .ref q6, .ref q7, .ref q8, .int 0, .int 0, .int 0, .int 0, .int 0]))]) S hnm hK hB (fun w h => List.mem_cons_of_mem _ (inlX10 w h)) tyX10 tyX10_ok nmX10 0 rfl rfl 8 (by decide) (S.2.2.2.2 _ (List.mem_cons_of_mem _ wf_X10_72)) rfl rfl rfl rfl (Nat.lt_of_lt_of_le (Nat.lt_succ_self 8) (Nat.le_of_ble_eq_true rfl)) rfl dX10_init_126 (fun H locs hB => ?_)
  refine lv_aload_n S.1 S.2.1 dX10_init_129 rfl (lv_at hl 0 rfl) ?_
  refine lv_iconst (v := (-1 : Int32)) S.1 S.2.1 dX10_init_130 (by decide) ?_
  refine gPut (w' := [(b, .inr (10, [.ref q0, .ref q1, .ref q2, .ref q3, .ref q4, .ref q5, .ref q6, .ref q7, .ref q8, .int (-1 : Int32), .int 0, .int 0, .int 0, .int 0]))]) S hK hB (fun w h => List.mem_cons_of_mem _ (inlX10 w h)) tyX10 tyX10_ok nmX10 0 rfl rfl 9 (by decide) (S.2.2.2.2 _ (List.mem_cons_of_mem _ wf_X10_76)) rfl rfl rfl (Nat.lt_of_lt_of_le (Nat.lt_succ_self 9) (Nat.le_of_ble_eq_true rfl)) rfl dX10_init_131 (fun H locs hB => ?_)
  refine lv_aload_n S.1 S.2.1 dX10_init_134 rfl (lv_at hl 0 rfl) ?_
  refine lv_sipush (v := (400 : Int32)) S.1 S.2.1 dX10_init_135 (by decide) ?_
  refine gPut (w' := [(b, .inr (10, [.ref q0, .ref q1, .ref q2, .ref q3, .ref q4, .ref q5, .ref q6, .ref q7, .ref q8, .int (-1 : Int32), .int 0, .int 0, .int (400 : Int32), .int 0]))]) S hK hB (fun w h => List.mem_cons_of_mem _ (inlX10 w h)) tyX10 tyX10_ok nmX10 0 rfl rfl 12 (by decide) (S.2.2.2.2 _ (List.mem_cons_of_mem _ wf_X10_80)) rfl rfl rfl (Nat.lt_of_lt_of_le (Nat.lt_succ_self 12) (Nat.le_of_ble_eq_true rfl)) rfl dX10_init_138 (fun H locs hB => ?_)
  refine lv_aload_n S.1 S.2.1 dX10_init_141 rfl (lv_at hl 0 rfl) ?_
  refine lv_sipush (v := (400 : Int32)) S.1 S.2.1 dX10_init_142 (by decide) ?_
  refine gPut (w' := [(b, .inr (10, [.ref q0, .ref q1, .ref q2, .ref q3, .ref q4, .ref q5, .ref q6, .ref q7, .ref q8, .int (-1 : Int32), .int 0, .int 0, .int (400 : Int32), .int (400 : Int32)]))]) S hK hB (fun w h => List.mem_cons_of_mem _ (inlX10 w h)) tyX10 tyX10_ok nmX10 0 rfl rfl 13 (by decide) (S.2.2.2.2 _ (List.mem_cons_of_mem _ wf_X10_83)) rfl rfl rfl (Nat.lt_of_lt_of_le (Nat.lt_succ_self 13) (Nat.le_of_ble_eq_true rfl)) rfl dX10_init_145 (fun H locs hB => ?_)
  replace hB := gPerm (List.Perm.append_left _ cPerm) hB
  exact gRetN S.1 S.2.1 hr hlk hB ⟨rfl, q0, a0_9, a1_9, q1, a0_24, a1_24, a2_24, a3_24, a4_24, a5_24, a6_24, a7_24, q2, a0_35, a1_35, a2_35, a3_35, a4_35, a5_35, a6_35, a7_35, a8_35, a9_35, a10_35, a11_35, a12_35, a13_35, q3, a0_46, a1_46, a2_46, a3_46, a4_46, a5_46, a6_46, a7_46, a8_46, a9_46, a10_46, a11_46, a12_46, a13_46, q4, q5, a0_80, a1_80, a2_80, a3_80, r0_80, q6, a0_91, a1_91, a2_91, a3_91, r0_91, q7, a0_110, a1_110, r0_110, q8, a0_123, rfl⟩ (Nat.le_of_ble_eq_true rfl) (Nat.le_of_ble_eq_true rfl) dX10_init_148
