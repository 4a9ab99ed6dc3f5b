
section TABM
variable {p : Program} {l : Launch} {e : Env} {R : Room} {s : State} {m : MethodId} {args : Array Value} {below : List Frame} {meth : Method} {c : Code} {H : Heap} {locs : List Loc} {cells slots : Nat} {Q : State → Prop}
variable {cc : ByteArray} {pc nL : Nat} {ls : Array Slot} {rest : List Value} {D : va_G} {cl : List vw_C} {A : Nat → Prop} {H0 : Heap} {w X : va_W} {tys : List (ClassId × FieldType)} {Ts : List Cond} {own : String}
theorem gAald (S : CallFix p m c cc nL s args Ts own) (hK : va_K D cl tys s) (hB : gB D cl A H0 w X H locs) (q0 t0 : Nat) {a n : Nat} {cA : ClassId} {ty : FieldType} {f : Nat → Option Nat} (ha : w[q0]? = some (a, .inl (cA, n, .inr (.inr (.inr (.inr f)))))) (ht : tys[t0]? = some (cA, .array ty)) {i : Int32} (hin : vp_in i n) {b : Nat} (hv : f i.toNatClampNeg = some b) (hdg : decode cc pc = .ok (.aaload, 1))
    (kk : W p l e R s m args below meth c H locs cells slots Q (F0 m (pc + 1) ls (.ref b :: rest))) : W p l e R s m args below meth c H locs cells slots Q (F0 m pc ls (.int i :: .ref a :: rest)) := by
  have hlt : i.toNatClampNeg < n := Nat.not_le.mp fun q => hin (Or.inr q)
  refine W.aald (v := va_rf (f i.toNatClampNeg)) (ty := .array ty) S.1 S.2.1 (hB.1 q0 _ (gApp ha)) ((hK.2 t0 _ ht).1 n (fun j => va_rf (f j))) rfl (fun q => by cases q) (by show ¬ (i < 0 ∨ (arrV _ _ _).slots.size ≤ _); rw [arrV_size]; exact hin) (by show (arrV _ _ _).slots[_]? = _; rw [arrV_read _ _ hlt]) rfl rfl hdg ?_
  rw [hv]
  exact kk
end TABM
theorem tRow_at {cJ : ClassId} {r : Nat → Nat} {n : Nat} {T : Nat → Nat → Int64} {j : Nat} (h : j < n) : (tRow cJ r n T)[j]? = some (r j, .inl (cJ, 120, .inr (.inl (T j)))) := by
  unfold tRow
  rw [List.getElem?_map, List.getElem?_range h]
  rfl
theorem tRow_set {cJ : ClassId} {r : Nat → Nat} {n : Nat} {T : Nat → Nat → Int64} {j : Nat} {g : Nat → Int64} (h : j < n) : (tRow cJ r n T).set j (r j, .inl (cJ, 120, .inr (.inl g))) = tRow cJ r n (va_up T j g) := by
  refine List.ext_getElem? fun k => ?_
  by_cases hk : k < n
  · rw [tRow_at hk]
    by_cases e : k = j
    · subst e
      rw [List.getElem?_set_self (by unfold tRow; simpa using h)]
      simp [va_up]
    · rw [List.getElem?_set_ne (Ne.symm e), tRow_at hk]
      simp [va_up, e]
  · rw [List.getElem?_eq_none (by unfold tRow; simp; omega), List.getElem?_eq_none (by unfold tRow; simp; omega)]
section TABK
variable {l : Launch} {D : va_G} {cI cJ cQ : ClassId} {KS : (Nat → Prop) → State → Prop} {n t a q : Nat} {x y : Int32} {ra : Nat → Nat → Nat} {T : Nat → Nat → Int64}
abbrev tSm (cJ cQ : ClassId) (ra : Nat → Nat → Nat) (t n a q : Nat) (T : Nat → Nat → Int64) : va_W := [(a, .inr (7, [.ref q])), (q, .inl (cQ, n, .inr (.inr (.inr (.inr (tOut ra t n))))))] ++ tRow cJ (ra t) n T
set_option maxHeartbeats 4000000 in
theorem kX7_get (hn : n < 2 ^ 31) : gMet l yX7_get qX7_get { frames := 0, cells := 0, slots := 0, locals := 0 } 0 0 D vwCl [(cI, .int), (cJ, .long), (cQ, .array .long)] KS [.ref a, .int x, .int y] (tSm cJ cQ ra t n a q T) (tSm cJ cQ ra t n a q T) (some (.long (getT n T x y))) := by
  refine gMet.of (cc := cX7_get) (maxL := 4) (ret := (some .long)) (by decide) rfl (Nat.le_of_ble_eq_true rfl) ?_
  intro p e s m args below meth c S hr hlk hnm hK hKS hA hB ls hl
  have hl : lv_has ls 4 [(0, .ref a), (1, .int x), (2, .int y)] := hl
  replace S : CallFix p m c cX7_get 4 s args (_ :: wsL_law) RX7 := S
  have hin : ∀ w ∈ wsX70, w ∈ (Cond.code yX7_get cX7_get 4 (some .long) :: wsL_law) := fun w h => List.mem_cons_of_mem _ (inlX7 w h)
  have hf := S.2.2.2.2 _ (List.mem_cons_of_mem _ wf_X7_17)
  refine lv_iload_n S.1 S.2.1 dX7_get_0 rfl (lv_at hl 1 rfl) ?_
  refine lv_if_lt (tgt := 13) S.1 S.2.1 dX7_get_1 (by decide) (fun c_1 => ?_) (fun c_1 => ?_)
  · rw [show getT n T x y = 0 by unfold getT; rw [if_pos c_1]]
    refine lv_lconst (v := 0) S.1 S.2.1 dX7_get_13 (by decide) ?_
    exact gRetL S.1 S.2.1 hr hlk hB dX7_get_14
  · refine lv_iload_n S.1 S.2.1 dX7_get_4 rfl (lv_at hl 1 rfl) ?_
    refine lv_aload_n S.1 S.2.1 dX7_get_5 rfl (lv_at hl 0 rfl) ?_
    refine gGet S hK hB hin 0 rfl rfl 0 (by decide) hf rfl dX7_get_6 ?_
    refine gAlen S hK hB 1 2 rfl rfl dX7_get_9 ?_
    refine lv_icmp_lt (tgt := 15) S.1 S.2.1 dX7_get_10 (by decide) (fun c_2 => ?_) (fun c_2 => ?_)
    · have hx := inOf2 hn c_1 c_2
      have hlt : x.toNatClampNeg < n := Nat.not_le.mp fun q => hx (Or.inr q)
      refine lv_aload_n S.1 S.2.1 dX7_get_15 rfl (lv_at hl 0 rfl) ?_
      refine gGet S hK hB hin 0 rfl rfl 0 (by decide) hf rfl dX7_get_16 ?_
      refine lv_iload_n S.1 S.2.1 dX7_get_19 rfl (lv_at hl 1 rfl) ?_
      refine gAald S hK hB 1 2 rfl rfl hx (b := ra t x.toNatClampNeg) (by unfold tOut; rw [if_pos hlt]) dX7_get_20 ?_
      refine lv_astore_n (lv' := [(3, .ref (ra t x.toNatClampNeg)), (0, .ref a), (1, .int x), (2, .int y)]) S.1 S.2.1 dX7_get_21 rfl hl (by decide) rfl (fun ls hl => ?_)
      refine lv_aload_n S.1 S.2.1 dX7_get_22 rfl (lv_at hl 0 rfl) ?_
      refine lv_ifnull S.1 S.2.1 dX7_get_23 ?_
      refine lv_iload_n S.1 S.2.1 dX7_get_26 rfl (lv_at hl 3 rfl) ?_
      refine lv_if_lt (tgt := 42) S.1 S.2.1 dX7_get_27 (by decide) (fun c_3 => ?_) (fun c_3 => ?_)
      · rw [show getT n T x y = 0 by unfold getT; rw [if_neg c_1, if_pos c_2, if_pos c_3]]
        refine lv_lconst (v := 0) S.1 S.2.1 dX7_get_42 (by decide) ?_
        exact gRetL S.1 S.2.1 hr hlk hB dX7_get_43
      · refine lv_iload_n S.1 S.2.1 dX7_get_30 rfl (lv_at hl 3 rfl) ?_
        refine lv_aload_n S.1 S.2.1 dX7_get_31 rfl (lv_at hl 0 rfl) ?_
        have hrow : (tSm cJ cQ ra t n a q T)[2 + x.toNatClampNeg]? = some (ra t x.toNatClampNeg, .inl (cJ, 120, .inr (.inl (T x.toNatClampNeg)))) := by
          rw [List.getElem?_append_right (by simp), show 2 + x.toNatClampNeg - List.length [_, _] = x.toNatClampNeg from Nat.add_sub_cancel_left 2 _]
          exact tRow_at hlt
        refine gAlen S hK hB (2 + x.toNatClampNeg) 1 hrow rfl dX7_get_32 ?_
        refine lv_icmp_ge (tgt := 42) S.1 S.2.1 dX7_get_33 (by decide) (fun c_4 => ?_) (fun c_4 => ?_)
        · rw [show getT n T x y = 0 by unfold getT; rw [if_neg c_1, if_pos c_2, if_neg c_3, if_pos c_4]]
          refine lv_lconst (v := 0) S.1 S.2.1 dX7_get_42 (by decide) ?_
          exact gRetL S.1 S.2.1 hr hlk hB dX7_get_43
        · rw [show getT n T x y = T x.toNatClampNeg y.toNatClampNeg by unfold getT; rw [if_neg c_1, if_pos c_2, if_neg c_3, if_neg c_4]]
          refine lv_aload_n S.1 S.2.1 dX7_get_36 rfl (lv_at hl 0 rfl) ?_
          refine lv_iload_n S.1 S.2.1 dX7_get_37 rfl (lv_at hl 3 rfl) ?_
          refine gLald S hK hB (2 + x.toNatClampNeg) 1 hrow rfl (inOf (by decide) c_3 c_4) dX7_get_38 ?_
          refine lv_goto (tgt := 43) S.1 S.2.1 dX7_get_39 (by decide) ?_
          exact gRetL S.1 S.2.1 hr hlk hB dX7_get_43
    · rw [show getT n T x y = 0 by unfold getT; rw [if_neg c_1, if_neg c_2]]
      refine lv_lconst (v := 0) S.1 S.2.1 dX7_get_13 (by decide) ?_
      exact gRetL S.1 S.2.1 hr hlk hB dX7_get_14
set_option maxHeartbeats 4000000 in
theorem kX7_put {v : Int64} (hn : n < 2 ^ 31) : gMet l yX7_put qX7_put { frames := 0, cells := 0, slots := 0, locals := 0 } 0 0 D vwCl [(cI, .int), (cJ, .long), (cQ, .array .long)] KS [.ref a, .int x, .int y, .long v] (tSm cJ cQ ra t n a q T) (tSm cJ cQ ra t n a q (putT n T x y v)) none := by
  refine gMet.of (cc := cX7_put) (maxL := 6) (ret := none) (by decide) rfl (Nat.le_of_ble_eq_true rfl) ?_
  intro p e s m args below meth c S hr hlk hnm hK hKS hA hB ls hl
  have hl : lv_has ls 6 [(0, .ref a), (1, .int x), (2, .int y), (3, .long v)] := hl
  replace S : CallFix p m c cX7_put 6 s args (_ :: wsL_law) RX7 := S
  have hin : ∀ w ∈ wsX70, w ∈ (Cond.code yX7_put cX7_put 6 none :: wsL_law) := fun w h => List.mem_cons_of_mem _ (inlX7 w h)
  have hf := S.2.2.2.2 _ (List.mem_cons_of_mem _ wf_X7_17)
  refine lv_iload_n S.1 S.2.1 dX7_put_0 rfl (lv_at hl 1 rfl) ?_
  refine lv_if_lt (tgt := 42) S.1 S.2.1 dX7_put_1 (by decide) (fun c_1 => ?_) (fun c_1 => ?_)
  · rw [show putT n T x y v = T by unfold putT; rw [if_pos c_1]]
    exact gRetV S.1 S.2.1 hr hlk hB dX7_put_42
  · refine lv_iload_n S.1 S.2.1 dX7_put_4 rfl (lv_at hl 1 rfl) ?_
    refine lv_aload_n S.1 S.2.1 dX7_put_5 rfl (lv_at hl 0 rfl) ?_
    refine gGet S hK hB hin 0 rfl rfl 0 (by decide) hf rfl dX7_put_6 ?_
    refine gAlen S hK hB 1 2 rfl rfl dX7_put_9 ?_
    refine lv_icmp_ge (tgt := 42) S.1 S.2.1 dX7_put_10 (by decide) (fun c_2 => ?_) (fun c_2 => ?_)
    · rw [show putT n T x y v = T by unfold putT; rw [if_neg c_1, if_pos c_2]]
      exact gRetV S.1 S.2.1 hr hlk hB dX7_put_42
    · have hx := inOf hn c_1 c_2
      have hlt : x.toNatClampNeg < n := Nat.not_le.mp fun q => hx (Or.inr q)
      refine lv_aload_n S.1 S.2.1 dX7_put_13 rfl (lv_at hl 0 rfl) ?_
      refine gGet S hK hB hin 0 rfl rfl 0 (by decide) hf rfl dX7_put_14 ?_
      refine lv_iload_n S.1 S.2.1 dX7_put_17 rfl (lv_at hl 1 rfl) ?_
      refine gAald S hK hB 1 2 rfl rfl hx (b := ra t x.toNatClampNeg) (by unfold tOut; rw [if_pos hlt]) dX7_put_18 ?_
      refine lv_astore (lv' := [(5, .ref (ra t x.toNatClampNeg)), (0, .ref a), (1, .int x), (2, .int y), (3, .long v)]) S.1 S.2.1 dX7_put_19 hl (by decide) rfl (fun ls hl => ?_)
      refine lv_aload S.1 S.2.1 dX7_put_21 (lv_at hl 0 rfl) ?_
      refine lv_ifnull S.1 S.2.1 dX7_put_23 ?_
      refine lv_iload_n S.1 S.2.1 dX7_put_26 rfl (lv_at hl 3 rfl) ?_
      refine lv_if_lt (tgt := 42) S.1 S.2.1 dX7_put_27 (by decide) (fun c_3 => ?_) (fun c_3 => ?_)
      · rw [show putT n T x y v = T by unfold putT; rw [if_neg c_1, if_neg c_2, if_pos c_3]]
        exact gRetV S.1 S.2.1 hr hlk hB dX7_put_42
      · refine lv_iload_n S.1 S.2.1 dX7_put_30 rfl (lv_at hl 3 rfl) ?_
        refine lv_aload S.1 S.2.1 dX7_put_31 (lv_at hl 0 rfl) ?_
        have hrow : (tSm cJ cQ ra t n a q T)[2 + x.toNatClampNeg]? = some (ra t x.toNatClampNeg, .inl (cJ, 120, .inr (.inl (T x.toNatClampNeg)))) := by
          rw [List.getElem?_append_right (by simp), show 2 + x.toNatClampNeg - List.length [_, _] = x.toNatClampNeg from Nat.add_sub_cancel_left 2 _]
          exact tRow_at hlt
        refine gAlen S hK hB (2 + x.toNatClampNeg) 1 hrow rfl dX7_put_33 ?_
        refine lv_icmp_ge (tgt := 42) S.1 S.2.1 dX7_put_34 (by decide) (fun c_4 => ?_) (fun c_4 => ?_)
        · rw [show putT n T x y v = T by unfold putT; rw [if_neg c_1, if_neg c_2, if_neg c_3, if_pos c_4]]
          exact gRetV S.1 S.2.1 hr hlk hB dX7_put_42
        · rw [show putT n T x y v = va_up T x.toNatClampNeg (vp_updL (T x.toNatClampNeg) y.toNatClampNeg v) by unfold putT; rw [if_neg c_1, if_neg c_2, if_neg c_3, if_neg c_4]]
          refine lv_aload S.1 S.2.1 dX7_put_37 (lv_at hl 0 rfl) ?_
          refine lv_iload_n S.1 S.2.1 dX7_put_39 rfl (lv_at hl 3 rfl) ?_
          refine lv_lload_n S.1 S.2.1 dX7_put_40 rfl (lv_at hl 4 rfl) ?_
          refine gLast (w' := tSm cJ cQ ra t n a q (va_up T x.toNatClampNeg (vp_updL (T x.toNatClampNeg) y.toNatClampNeg v))) S hK hB (2 + x.toNatClampNeg) 1 hrow rfl (inOf (by decide) c_3 c_4) ?_ dX7_put_41 (fun H locs hB => ?_)
          · rw [List.set_append_right _ _ (by simp), show 2 + x.toNatClampNeg - List.length [_, _] = x.toNatClampNeg from Nat.add_sub_cancel_left 2 _]
            rw [tRow_set hlt]
          · exact gRetV S.1 S.2.1 hr hlk hB dX7_put_42
end TABK
