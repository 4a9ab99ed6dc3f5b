theorem lwSub {L a : Nat} (hL : L ≤ 4000) (ha : a ≤ 8000) : (Int32.ofNat L - (6 : Int32) < Int32.ofNat a) ↔ L < a + 6 := by
  have h1 : (Int32.ofNat L).toInt = L := Int32.toInt_ofNat_of_lt (by omega)
  have h2 : (Int32.ofNat a).toInt = a := Int32.toInt_ofNat_of_lt (by omega)
  rw [Int32.lt_iff_toInt_lt, Int32.toInt_sub, h1, h2, show (6 : Int32).toInt = 6 from rfl, Int.bmod_eq_of_le (by omega) (by omega)]
  omega
theorem lwIn {L a : Nat} (hL : L ≤ 4000) (ha : a + 6 ≤ L) (k : Int32) (h0 : 0 ≤ k) (h5 : k ≤ 5) : vp_in (Int32.ofNat a + k) L := by
  rcases pk_ix k (n := 6) (by decide) with h | h | ⟨j, hj, rfl⟩
  · exact absurd h (Int32.not_lt.mpr h0)
  · exact absurd (Int32.le_trans h h5) (by decide)
  · rw [show nI j = Int32.ofNat j from rfl, ← Int32.ofNat_add]
    exact vp_in_nI (by omega) (by omega)
theorem lwIn0 {L a : Nat} (hL : L ≤ 4000) (ha : a + 6 ≤ L) : vp_in (Int32.ofNat a) L := vp_in_nI (by omega) (by omega)
set_option maxRecDepth 100000 in
set_option maxHeartbeats 4000000 in
theorem lw_loop {p : Program} {l : Launch} {e : Env} {s : State} {m : MethodId} {args : Array Value} {below : List Frame} {meth : Method} {c : Code} {Q : State → Prop} {D : va_G} {A : Nat → Prop} {k0 : Cond} {cI cJ cQ cD : ClassId} {ad am : Nat → Nat} {ra : Nat → Nat → Nat} {adK adV tK : Nat → Nat} {b L o1 o2 : Nat} {xs : Nat → Int32} {Rel : MS → CS → Prop} (HR : LawOK Rel) (hl9 : l.stackTraces = false) (S : CallFix p m c cL_law 9 s args (k0 :: wsL_law) RL) (hK : va_K D vwCl [(cI, .int), (cJ, .long), (cQ, .array .long), (cD, .double)] s) (hKS : wKS adK adV tK A s) (hA : ∀ q, s.heap.size ≤ q → A q) (hX : va_X b L xs s s.heap) (hbl : b < s.heap.size) (hbA : ¬ A b) (hL : L ≤ 3072)
    (kend : ∀ (H : Heap) (locs : List Loc) (ls : Array Slot) (cells slots : Nat), va_S A s.heap H locs → cells ≤ room_1.cells → slots ≤ room_1.slots → W p l e room_1 s m args below meth c H locs cells slots Q (F0 m 1511 ls [])) :
    ∀ (n j : Nat) (σ : MS) (τ : CS) (f : Nat → Int64) (g : Nat → UInt64) (H : Heap) (locs : List Loc) (ls : Array Slot) (cells slots : Nat), 6 * j ≤ L + 6 → L < 6 * j + 6 * n + 6 → cells + 57 * n ≤ room_1.cells → slots + 212 * n ≤ room_1.slots → Rel σ τ → gB D vwCl A s.heap (CW cI cJ cQ ad ra τ) (MW cI cJ am σ ++ [(o1, .inl (cJ, 1, .inr (.inl f))), (o2, .inl (cD, 1, .inr (.inr (.inr (.inl g)))))]) H locs → lv_has ls 9 [(5, .int (Int32.ofNat (6 * j))), (4, .ref o2), (3, .ref o1), (2, .ref (am 0)), (1, .ref (ad 0)), (0, .ref b)] → W p l e room_1 s m args below meth c H locs cells slots Q (F0 m 28 ls []) := by
  intro n
  induction n with
  | zero =>
    intro j σ τ f g H locs ls cells slots hj hn hc hs hR hB hl
    refine lv_iload S.1 S.2.1 dL_law_28 (lv_at hl 0 rfl) ?_
    refine lv_aload_n S.1 S.2.1 dL_law_30 rfl (lv_at hl 5 rfl) ?_
    refine va_slen S.1 S.2.1 hX hbl hbA hB.2.2 dL_law_31 ?_
    refine lv_bipush (v := (6 : Int32)) S.1 S.2.1 dL_law_32 (by decide) ?_
    refine lv_isub S.1 S.2.1 dL_law_34 ?_
    refine lv_icmp_gt (tgt := 1511) S.1 S.2.1 dL_law_35 (by decide) (fun _ => ?_) (fun c9 => absurd ((lwSub (by omega) (by omega)).mpr (by omega)) c9)
    exact kend H locs ls cells slots hB.2.2 (by omega) (by omega)
  | succ n ih =>
    intro j σ τ f g H locs ls cells slots hj hn hc hs hR hB hl
    refine lv_iload S.1 S.2.1 dL_law_28 (lv_at hl 0 rfl) ?_
    refine lv_aload_n S.1 S.2.1 dL_law_30 rfl (lv_at hl 5 rfl) ?_
    refine va_slen S.1 S.2.1 hX hbl hbA hB.2.2 dL_law_31 ?_
    refine lv_bipush (v := (6 : Int32)) S.1 S.2.1 dL_law_32 (by decide) ?_
    refine lv_isub S.1 S.2.1 dL_law_34 ?_
    refine lv_icmp_gt (tgt := 1511) S.1 S.2.1 dL_law_35 (by decide) (fun _ => kend H locs ls cells slots hB.2.2 (by omega) (by omega)) (fun c9 => ?_)
    have hj6 : 6 * j + 6 ≤ L := by
      have := (not_congr (lwSub (L := L) (a := 6 * j) (by omega) (by omega))).mp c9
      omega
    have hi := lwIn (L := L) (a := 6 * j) (by omega) hj6
    have hc1 : cells + 57 ≤ room_1.cells := by omega
    have hs1 : slots + 212 ≤ room_1.slots := by omega
    have kk : ∀ (σ : MS) (τ : CS) (f : Nat → Int64) (g : Nat → UInt64) (H : Heap) (locs : List Loc) (ls : Array Slot), Rel σ τ → gB D vwCl A s.heap (CW cI cJ cQ ad ra τ) (MW cI cJ am σ ++ [(o1, .inl (cJ, 1, .inr (.inl f))), (o2, .inl (cD, 1, .inr (.inr (.inr (.inl g)))))]) H locs → lv_has ls 9 [(5, .int (Int32.ofNat (6 * j))), (4, .ref o2), (3, .ref o1), (2, .ref (am 0)), (1, .ref (ad 0)), (0, .ref b)] → W p l e room_1 s m args below meth c H locs (cells + 57) (slots + 212) Q (F0 m 1505 ls []) := by
      intro σ τ f g H locs ls hR hB hl
      refine lv_iinc (v := Int32.ofNat (6 * (j + 1))) (lv' := [(5, .int (Int32.ofNat (6 * (j + 1)))), (4, .ref o2), (3, .ref o1), (2, .ref (am 0)), (1, .ref (ad 0)), (0, .ref b)]) S.1 S.2.1 dL_law_1505 hl (k := 0) rfl (by rw [show 6 * (j + 1) = 6 * j + 6 by omega, Int32.ofNat_add]; rfl) (by decide) rfl (fun ls hl => ?_)
      refine lv_goto (tgt := 28) S.1 S.2.1 dL_law_1508 (by decide) ?_
      exact ih (j + 1) σ τ f g H locs ls _ _ (by omega) (by omega) (by omega) (by omega) hR hB hl
    refine lv_aload_n S.1 S.2.1 dL_law_38 rfl (lv_at hl 5 rfl) ?_
    refine lv_iload S.1 S.2.1 dL_law_39 (lv_at hl 0 rfl) ?_
    refine va_sld S.1 S.2.1 hX hbl hbA hB.2.2 (lwIn0 (by omega) hj6) dL_law_41 ?_
    refine lv_bipush (v := (31 : Int32)) S.1 S.2.1 dL_law_42 (by decide) ?_
    refine lv_iand S.1 S.2.1 dL_law_44 ?_
    obtain ⟨v, hv⟩ : ∃ v, v = xs (Int32.ofNat (6 * j)).toNatClampNeg &&& (31 : Int32) := ⟨_, rfl⟩
    rw [← hv]
    by_cases c_0 : v = 0
    · refine lv_tableIn (off := 111) (tgt := 156) S.1 S.2.1 dL_law_45 (by rw [c_0]; decide) (by rw [c_0]; decide) (by rw [c_0]; rfl) (by decide) ?_
      exact lwC_0 HR hl9 S hK hKS hA hX hbl hbA hi hc1 hs1 hR hB hl kk
    by_cases c_1 : v = 1
    · refine lv_tableIn (off := 215) (tgt := 260) S.1 S.2.1 dL_law_45 (by rw [c_1]; decide) (by rw [c_1]; decide) (by rw [c_1]; rfl) (by decide) ?_
      exact lwC_1 HR hl9 S hK hKS hA hX hbl hbA hi hc1 hs1 hR hB hl kk
    by_cases c_2 : v = 2
    · refine lv_tableIn (off := 271) (tgt := 316) S.1 S.2.1 dL_law_45 (by rw [c_2]; decide) (by rw [c_2]; decide) (by rw [c_2]; rfl) (by decide) ?_
      exact lwC_2 HR hl9 S hK hKS hA hX hbl hbA hi hc1 hs1 hR hB hl kk
    by_cases c_3 : v = 3
    · refine lv_tableIn (off := 284) (tgt := 329) S.1 S.2.1 dL_law_45 (by rw [c_3]; decide) (by rw [c_3]; decide) (by rw [c_3]; rfl) (by decide) ?_
      exact lwC_3 HR hl9 S hK hKS hA hX hbl hbA hi hc1 hs1 hR hB hl kk
    by_cases c_4 : v = 4
    · refine lv_tableIn (off := 297) (tgt := 342) S.1 S.2.1 dL_law_45 (by rw [c_4]; decide) (by rw [c_4]; decide) (by rw [c_4]; rfl) (by decide) ?_
      exact lwC_4 HR hl9 S hK hKS hA hX hbl hbA hi hc1 hs1 hR hB hl kk
    by_cases c_5 : v = 5
    · refine lv_tableIn (off := 353) (tgt := 398) S.1 S.2.1 dL_law_45 (by rw [c_5]; decide) (by rw [c_5]; decide) (by rw [c_5]; rfl) (by decide) ?_
      exact lwC_5 HR hl9 S hK hKS hA hX hbl hbA hi hc1 hs1 hR hB hl kk
    by_cases c_6 : v = 6
    · refine lv_tableIn (off := 452) (tgt := 497) S.1 S.2.1 dL_law_45 (by rw [c_6]; decide) (by rw [c_6]; decide) (by rw [c_6]; rfl) (by decide) ?_
      exact lwC_6 HR hl9 S hK hKS hA hX hbl hbA hi hc1 hs1 hR hB hl kk
    by_cases c_7 : v = 7
    · refine lv_tableIn (off := 508) (tgt := 553) S.1 S.2.1 dL_law_45 (by rw [c_7]; decide) (by rw [c_7]; decide) (by rw [c_7]; rfl) (by decide) ?_
      exact lwC_7 HR hl9 S hK hKS hA hX hbl hbA hi hc1 hs1 hR hB hl kk
    by_cases c_8 : v = 8
    · refine lv_tableIn (off := 564) (tgt := 609) S.1 S.2.1 dL_law_45 (by rw [c_8]; decide) (by rw [c_8]; decide) (by rw [c_8]; rfl) (by decide) ?_
      exact lwC_8 HR hl9 S hK hKS hA hX hbl hbA hi hc1 hs1 hR hB hl kk
    by_cases c_9 : v = 9
    · refine lv_tableIn (off := 608) (tgt := 653) S.1 S.2.1 dL_law_45 (by rw [c_9]; decide) (by rw [c_9]; decide) (by rw [c_9]; rfl) (by decide) ?_
      exact lwC_9 HR hl9 S hK hKS hA hX hbl hbA hi hc1 hs1 hR hB hl kk
    by_cases c_10 : v = 10
    · refine lv_tableIn (off := 621) (tgt := 666) S.1 S.2.1 dL_law_45 (by rw [c_10]; decide) (by rw [c_10]; decide) (by rw [c_10]; rfl) (by decide) ?_
      exact lwC_10 HR hl9 S hK hKS hA hX hbl hbA hi hc1 hs1 hR hB hl kk
    by_cases c_11 : v = 11
    · refine lv_tableIn (off := 665) (tgt := 710) S.1 S.2.1 dL_law_45 (by rw [c_11]; decide) (by rw [c_11]; decide) (by rw [c_11]; rfl) (by decide) ?_
      exact lwC_11 HR hl9 S hK hKS hA hX hbl hbA hi hc1 hs1 hR hB hl kk
    by_cases c_12 : v = 12
    · refine lv_tableIn (off := 721) (tgt := 766) S.1 S.2.1 dL_law_45 (by rw [c_12]; decide) (by rw [c_12]; decide) (by rw [c_12]; rfl) (by decide) ?_
      exact lwC_12 HR hl9 S hK hKS hA hX hbl hbA hi hc1 hs1 hR hB hl kk
    by_cases c_13 : v = 13
    · refine lv_tableIn (off := 788) (tgt := 833) S.1 S.2.1 dL_law_45 (by rw [c_13]; decide) (by rw [c_13]; decide) (by rw [c_13]; rfl) (by decide) ?_
      exact lwC_13 HR hl9 S hK hKS hA hX hbl hbA hi hc1 hs1 hR hB hl kk
    by_cases c_14 : v = 14
    · refine lv_tableIn (off := 855) (tgt := 900) S.1 S.2.1 dL_law_45 (by rw [c_14]; decide) (by rw [c_14]; decide) (by rw [c_14]; rfl) (by decide) ?_
      exact lwC_14 HR hl9 S hK hKS hA hX hbl hbA hi hc1 hs1 hR hB hl kk
    by_cases c_15 : v = 15
    · refine lv_tableIn (off := 930) (tgt := 975) S.1 S.2.1 dL_law_45 (by rw [c_15]; decide) (by rw [c_15]; decide) (by rw [c_15]; rfl) (by decide) ?_
      exact lwC_15 HR hl9 S hK hKS hA hX hbl hbA hi hc1 hs1 hR hB hl kk
    by_cases c_16 : v = 16
    · refine lv_tableIn (off := 1005) (tgt := 1050) S.1 S.2.1 dL_law_45 (by rw [c_16]; decide) (by rw [c_16]; decide) (by rw [c_16]; rfl) (by decide) ?_
      exact lwC_16 HR hl9 S hK hKS hA hX hbl hbA hi hc1 hs1 hR hB hl kk
    by_cases c_17 : v = 17
    · refine lv_tableIn (off := 1073) (tgt := 1118) S.1 S.2.1 dL_law_45 (by rw [c_17]; decide) (by rw [c_17]; decide) (by rw [c_17]; rfl) (by decide) ?_
      exact lwC_17 HR hl9 S hK hKS hA hX hbl hbA hi hc1 hs1 hR hB hl kk
    by_cases c_18 : v = 18
    · refine lv_tableIn (off := 1129) (tgt := 1174) S.1 S.2.1 dL_law_45 (by rw [c_18]; decide) (by rw [c_18]; decide) (by rw [c_18]; rfl) (by decide) ?_
      exact lwC_18 HR hl9 S hK hKS hA hX hbl hbA hi hc1 hs1 hR hB hl kk
    by_cases c_19 : v = 19
    · refine lv_tableIn (off := 1225) (tgt := 1270) S.1 S.2.1 dL_law_45 (by rw [c_19]; decide) (by rw [c_19]; decide) (by rw [c_19]; rfl) (by decide) ?_
      exact lwC_19 HR hl9 S hK hKS hA hX hbl hbA hi hc1 hs1 hR hB hl kk
    by_cases c_20 : v = 20
    · refine lv_tableIn (off := 1293) (tgt := 1338) S.1 S.2.1 dL_law_45 (by rw [c_20]; decide) (by rw [c_20]; decide) (by rw [c_20]; rfl) (by decide) ?_
      exact lwC_20 HR hl9 S hK hKS hA hX hbl hbA hi hc1 hs1 hR hB hl kk
    by_cases c_21 : v = 21
    · refine lv_tableIn (off := 1370) (tgt := 1415) S.1 S.2.1 dL_law_45 (by rw [c_21]; decide) (by rw [c_21]; decide) (by rw [c_21]; rfl) (by decide) ?_
      exact lwC_21 HR hl9 S hK hKS hA hX hbl hbA hi hc1 hs1 hR hB hl kk
    by_cases c_22 : v = 22
    · refine lv_tableIn (off := 1383) (tgt := 1428) S.1 S.2.1 dL_law_45 (by rw [c_22]; decide) (by rw [c_22]; decide) (by rw [c_22]; rfl) (by decide) ?_
      exact lwC_22 HR hl9 S hK hKS hA hX hbl hbA hi hc1 hs1 hR hB hl kk
    by_cases c_23 : v = 23
    · refine lv_tableIn (off := 1446) (tgt := 1491) S.1 S.2.1 dL_law_45 (by rw [c_23]; decide) (by rw [c_23]; decide) (by rw [c_23]; rfl) (by decide) ?_
      exact lwC_23 HR hl9 S hK hKS hA hX hbl hbA hi hc1 hs1 hR hB hl kk
    refine swT (tgt := 1505) (cs := [0, 1, 2, 3, 4, 5, 6, 7, 8, 9, 10, 11, 12, 13, 14, 15, 16, 17, 18, 19, 20, 21, 22, 23]) S.1 S.2.1 dL_law_45 (List.forall_mem_cons.mpr ⟨lv_neT c_0 (by decide), List.forall_mem_cons.mpr ⟨lv_neT c_1 (by decide), List.forall_mem_cons.mpr ⟨lv_neT c_2 (by decide), List.forall_mem_cons.mpr ⟨lv_neT c_3 (by decide), List.forall_mem_cons.mpr ⟨lv_neT c_4 (by decide), List.forall_mem_cons.mpr ⟨lv_neT c_5 (by decide), List.forall_mem_cons.mpr ⟨lv_neT c_6 (by decide), List.forall_mem_cons.mpr ⟨lv_neT c_7 (by decide), List.forall_mem_cons.mpr ⟨lv_neT c_8 (by decide), List.forall_mem_cons.mpr ⟨lv_neT c_9 (by decide), List.forall_mem_cons.mpr ⟨lv_neT c_10 (by decide), List.forall_mem_cons.mpr ⟨lv_neT c_11 (by decide), List.forall_mem_cons.mpr ⟨lv_neT c_12 (by decide), List.forall_mem_cons.mpr ⟨lv_neT c_13 (by decide), List.forall_mem_cons.mpr ⟨lv_neT c_14 (by decide), List.forall_mem_cons.mpr ⟨lv_neT c_15 (by decide), List.forall_mem_cons.mpr ⟨lv_neT c_16 (by decide), List.forall_mem_cons.mpr ⟨lv_neT c_17 (by decide), List.forall_mem_cons.mpr ⟨lv_neT c_18 (by decide), List.forall_mem_cons.mpr ⟨lv_neT c_19 (by decide), List.forall_mem_cons.mpr ⟨lv_neT c_20 (by decide), List.forall_mem_cons.mpr ⟨lv_neT c_21 (by decide), List.forall_mem_cons.mpr ⟨lv_neT c_22 (by decide), List.forall_mem_cons.mpr ⟨lv_neT c_23 (by decide), List.forall_mem_nil _⟩⟩⟩⟩⟩⟩⟩⟩⟩⟩⟩⟩⟩⟩⟩⟩⟩⟩⟩⟩⟩⟩⟩⟩) (by decide) (by decide) (by decide) ?_
    exact W.widen (k := cells + 57) (n := slots + 212) (by omega) (by omega) (kk σ τ f g H locs ls hR hB hl)
