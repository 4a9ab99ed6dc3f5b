-- the program's own objects: numbers by place and slot, long numbers likewise, rows by their places, tables by their numbers
abbrev CS : Type := (Nat → Int32) × (Nat → Int64) × (Nat → Nat → Int32) × (Nat → Nat → Int64) × (Nat → Nat → Nat → Int64)
abbrev tI (σ : CS) (k : Nat) (v : Int32) : CS := (va_up σ.1 k v, σ.2)
abbrev tL (σ : CS) (k : Nat) (v : Int64) : CS := (σ.1, va_up σ.2.1 k v, σ.2.2)
abbrev tA (σ : CS) (k : Nat) (v : Nat → Int32) : CS := (σ.1, σ.2.1, va_up σ.2.2.1 k v, σ.2.2.2)
abbrev tB (σ : CS) (k : Nat) (v : Nat → Int64) : CS := (σ.1, σ.2.1, σ.2.2.1, va_up σ.2.2.2.1 k v, σ.2.2.2.2)
abbrev tT (σ : CS) (k : Nat) (v : Nat → Nat → Int64) : CS := (σ.1, σ.2.1, σ.2.2.1, σ.2.2.2.1, va_up σ.2.2.2.2 k v)
/-- the outer row of a table -/
def tOut (ra : Nat → Nat → Nat) (t n : Nat) : Nat → Option Nat := fun i => if i < n then some (ra t i) else none
/-- the rows of a table -/
def tRow (cJ : ClassId) (r : Nat → Nat) (n : Nat) (T : Nat → Nat → Int64) : va_W := (List.range n).map (fun i => (r i, .inl (cJ, 120, .inr (.inl (T i)))))
def getI (n : Nat) (f : Nat → Int32) (x : Int32) : Int32 := if x < 0 then 0 else if Int32.ofNat n ≤ x then 0 else f x.toNatClampNeg
def putI (n : Nat) (f : Nat → Int32) (x v : Int32) : Nat → Int32 := if x < 0 then f else if Int32.ofNat n ≤ x then f else upd f x.toNatClampNeg v
def getL (n : Nat) (f : Nat → Int64) (x : Int32) : Int64 := if x < 0 then 0 else if Int32.ofNat n ≤ x then 0 else f x.toNatClampNeg
def putL (n : Nat) (f : Nat → Int64) (x : Int32) (v : Int64) : Nat → Int64 := if x < 0 then f else if Int32.ofNat n ≤ x then f else vp_updL f x.toNatClampNeg v
def getT (n : Nat) (T : Nat → Nat → Int64) (x y : Int32) : Int64 := if x < 0 then 0 else if x < Int32.ofNat n then (if y < 0 then 0 else if Int32.ofNat 120 ≤ y then 0 else T x.toNatClampNeg y.toNatClampNeg) else 0
def putT (n : Nat) (T : Nat → Nat → Int64) (x y : Int32) (v : Int64) : Nat → Nat → Int64 := if x < 0 then T else if Int32.ofNat n ≤ x then T else if y < 0 then T else if Int32.ofNat 120 ≤ y then T else va_up T x.toNatClampNeg (vp_updL (T x.toNatClampNeg) y.toNatClampNeg v)
theorem inOf {n : Nat} (hn : n < 2 ^ 31) {x : Int32} (h1 : ¬ x < 0) (h2 : ¬ Int32.ofNat n ≤ x) : vp_in x n := by
  rcases pk_ix x hn with h | h | ⟨j, hj, rfl⟩
  · exact absurd h h1
  · exact absurd h h2
  · exact vp_in_nI hj hn
theorem inOf2 {n : Nat} (hn : n < 2 ^ 31) {x : Int32} (h1 : ¬ x < 0) (h2 : x < Int32.ofNat n) : vp_in x n := inOf hn h1 (Int32.not_le.mpr h2)
/-- a world's order doesn't matter -/
theorem va_P_perm {D : va_G} {cl : List vw_C} {w w2 : va_W} {H : Heap} (hp : w.Perm w2) (h : va_P D cl w H) : va_P D cl w2 H := fun k q hk => by
  obtain ⟨i, hi⟩ := List.getElem?_of_mem (hp.mem_iff.mpr (List.mem_of_getElem? hk))
  exact h i q hi
theorem va_D_pw {A : Nat → Prop} {w : va_W} : va_D A w ↔ w.Pairwise (fun a b => a.1 ≠ b.1) ∧ ∀ q ∈ w, A q.1 := by
  constructor
  · intro h
    refine ⟨List.pairwise_iff_getElem.mpr fun i j hi hj hij he => ?_, fun q hq => ?_⟩
    · have := h.1 i j _ _ (List.getElem?_eq_getElem hi) (List.getElem?_eq_getElem hj) he
      omega
    · obtain ⟨i, hi⟩ := List.getElem?_of_mem hq
      exact h.2 i q hi
  · intro h
    have hp := List.pairwise_iff_getElem.mp h.1
    refine ⟨fun i j x y hi hj hxy => ?_, fun k q hk => h.2 q (List.mem_of_getElem? hk)⟩
    obtain ⟨li, ei⟩ := List.getElem?_eq_some_iff.mp hi
    obtain ⟨lj, ej⟩ := List.getElem?_eq_some_iff.mp hj
    subst ei; subst ej
    rcases Nat.lt_trichotomy i j with q | q | q
    · exact absurd hxy (hp i j li lj q)
    · exact q
    · exact absurd hxy.symm (hp j i lj li q)
theorem va_D_perm {A : Nat → Prop} {w w2 : va_W} (hp : w.Perm w2) (h : va_D A w) : va_D A w2 := by
  obtain ⟨h1, h2⟩ := va_D_pw.mp h
  exact va_D_pw.mpr ⟨(hp.pairwise_iff (fun h z => h z.symm)).mp h1, fun q hq => h2 q (hp.mem_iff.mpr hq)⟩
theorem gPerm {D : va_G} {cl : List vw_C} {A : Nat → Prop} {H0 H : Heap} {w X w2 X2 : va_W} {locs : List Loc} (hp : (w ++ X).Perm (w2 ++ X2)) (h : gB D cl A H0 w X H locs) : gB D cl A H0 w2 X2 H locs := ⟨va_P_perm hp h.1, va_D_perm hp h.2.1, h.2.2⟩
theorem gMid {D : va_G} {cl : List vw_C} {A : Nat → Prop} {H0 H : Heap} {W w post pre X : va_W} {locs : List Loc} (e : W = pre ++ (w ++ post)) (h : gB D cl A H0 W X H locs) : gB D cl A H0 w (pre ++ (post ++ X)) H locs := by
  subst e
  refine gPerm ?_ h
  simp only [List.append_assoc]
  exact List.perm_append_comm_assoc _ _ _
theorem gMidB {D : va_G} {cl : List vw_C} {A : Nat → Prop} {H0 H : Heap} {W w post pre X : va_W} {locs : List Loc} (e : W = pre ++ (w ++ post)) (h : gB D cl A H0 w (pre ++ (post ++ X)) H locs) : gB D cl A H0 W X H locs := by
  subst e
  refine gPerm ?_ h
  simp only [List.append_assoc]
  exact (List.perm_append_comm_assoc _ _ _)
abbrev CL (cI cJ cQ : ClassId) (ad : Nat → Nat) (ra : Nat → Nat → Nat) (σ : CS) : va_W := [(ad 0, .inr (10, [.ref (ad 1), .ref (ad 4), .ref (ad 13), .ref (ad 28), .ref (ad 43), .ref (ad 44), .ref (ad 49), .ref (ad 54), .ref (ad 57), .int (σ.1 9), .int (σ.1 10), .int (σ.1 11), .int (σ.1 12), .int (σ.1 13)])), (ad 1, .inr (8, [.ref (ad 2), .int (σ.1 101)])), (ad 2, .inr (1, [.ref (ad 3)])), (ad 3, .inl (cI, 1800, .inl (σ.2.2.1 3))), (ad 4, .inr (9, [.ref (ad 1), .ref (ad 5), .ref (ad 7), .ref (ad 9), .ref (ad 11), .int (σ.1 405)])), (ad 5, .inr (2, [.ref (ad 6)])), (ad 6, .inl (cJ, 30, .inr (.inl (σ.2.2.2.1 6)))), (ad 7, .inr (1, [.ref (ad 8)])), (ad 8, .inl (cI, 401, .inl (σ.2.2.1 8))), (ad 9, .inr (1, [.ref (ad 10)])), (ad 10, .inl (cI, 401, .inl (σ.2.2.1 10))), (ad 11, .inr (2, [.ref (ad 12)])), (ad 12, .inl (cJ, 401, .inr (.inl (σ.2.2.2.1 12)))), (ad 13, .inr (3, [.ref (ad 14), .ref (ad 16), .ref (ad 18), .ref (ad 20), .ref (ad 22), .ref (ad 24), .ref (ad 26), .int (σ.1 1307), .int (σ.1 1308)])), (ad 14, .inr (1, [.ref (ad 15)])), (ad 15, .inl (cI, 1200, .inl (σ.2.2.1 15))), (ad 16, .inr (1, [.ref (ad 17)])), (ad 17, .inl (cI, 1200, .inl (σ.2.2.1 17))), (ad 18, .inr (1, [.ref (ad 19)])), (ad 19, .inl (cI, 1200, .inl (σ.2.2.1 19))), (ad 20, .inr (1, [.ref (ad 21)])), (ad 21, .inl (cI, 1200, .inl (σ.2.2.1 21))), (ad 22, .inr (1, [.ref (ad 23)])), (ad 23, .inl (cI, 1200, .inl (σ.2.2.1 23))), (ad 24, .inr (1, [.ref (ad 25)])), (ad 25, .inl (cI, 1200, .inl (σ.2.2.1 25))), (ad 26, .inr (1, [.ref (ad 27)])), (ad 27, .inl (cI, 1200, .inl (σ.2.2.1 27))), (ad 28, .inr (5, [.ref (ad 29), .ref (ad 31), .ref (ad 33), .ref (ad 35), .ref (ad 37), .ref (ad 39), .ref (ad 41), .int (σ.1 2807), .int (σ.1 2808), .int (σ.1 2809)])), (ad 29, .inr (2, [.ref (ad 30)])), (ad 30, .inl (cJ, 44, .inr (.inl (σ.2.2.2.1 30)))), (ad 31, .inr (1, [.ref (ad 32)])), (ad 32, .inl (cI, 44, .inl (σ.2.2.1 32))), (ad 33, .inr (1, [.ref (ad 34)])), (ad 34, .inl (cI, 44, .inl (σ.2.2.1 34))), (ad 35, .inr (1, [.ref (ad 36)])), (ad 36, .inl (cI, 4, .inl (σ.2.2.1 36))), (ad 37, .inr (1, [.ref (ad 38)])), (ad 38, .inl (cI, 48, .inl (σ.2.2.1 38))), (ad 39, .inr (2, [.ref (ad 40)])), (ad 40, .inl (cJ, 8, .inr (.inl (σ.2.2.2.1 40)))), (ad 41, .inr (1, [.ref (ad 42)])), (ad 42, .inl (cI, 12, .inl (σ.2.2.1 42))), (ad 43, .inr (4, [.ref (ad 4), .ref (ad 13), .ref (ad 28), .int (σ.1 4303), .int (σ.1 4304), .int (σ.1 4305), .long (σ.2.1 4306), .int (σ.1 4307), .int (σ.1 4308), .int (σ.1 4309), .int (σ.1 4310), .int (σ.1 4311)])), (ad 44, .inr (0, [.ref (ad 45), .ref (ad 47), .int (σ.1 4402), .int (σ.1 4403)])), (ad 45, .inr (1, [.ref (ad 46)])), (ad 46, .inl (cI, 120, .inl (σ.2.2.1 46))), (ad 47, .inr (7, [.ref (ad 48)])), (ad 48, .inl (cQ, 8, .inr (.inr (.inr (.inr (tOut ra 0 8)))))), (ad 49, .inr (0, [.ref (ad 50), .ref (ad 52), .int (σ.1 4902), .int (σ.1 4903)])), (ad 50, .inr (1, [.ref (ad 51)])), (ad 51, .inl (cI, 120, .inl (σ.2.2.1 51))), (ad 52, .inr (7, [.ref (ad 53)])), (ad 53, .inl (cQ, 8, .inr (.inr (.inr (.inr (tOut ra 1 8)))))), (ad 54, .inr (6, [.ref (ad 13), .ref (ad 44), .ref (ad 55), .int (σ.1 5403), .int (σ.1 5404)])), (ad 55, .inr (7, [.ref (ad 56)])), (ad 56, .inl (cQ, 1200, .inr (.inr (.inr (.inr (tOut ra 2 1200)))))), (ad 57, .inr (2, [.ref (ad 58)])), (ad 58, .inl (cJ, 8, .inr (.inl (σ.2.2.2.1 58))))]
abbrev CR (cJ : ClassId) (ra : Nat → Nat → Nat) (σ : CS) : va_W := tRow cJ (ra 0) 8 (σ.2.2.2.2 0) ++ (tRow cJ (ra 1) 8 (σ.2.2.2.2 1) ++ tRow cJ (ra 2) 1200 (σ.2.2.2.2 2))
abbrev CW (cI cJ cQ : ClassId) (ad : Nat → Nat) (ra : Nat → Nat → Nat) (σ : CS) : va_W := CL cI cJ cQ ad ra σ ++ CR cJ ra σ

section LEAFM
variable {l : Launch} {D : va_G} {cI cJ cQ : ClassId} {KS : (Nat → Prop) → State → Prop} {n a q : Nat} {x : Int32}
set_option maxHeartbeats 4000000 in
theorem kX1_get {f : Nat → Int32} (hn : n < 2 ^ 31) : gMet l yX1_get qX1_get { frames := 0, cells := 0, slots := 0, locals := 0 } 0 0 D vwCl [(cI, .int), (cJ, .long), (cQ, .array .long)] KS [.ref a, .int x] [(a, .inr (1, [.ref q])), (q, .inl (cI, n, .inl f))] [(a, .inr (1, [.ref q])), (q, .inl (cI, n, .inl f))] (some (.int (getI n f x))) := by
  refine gMet.of (cc := cX1_get) (maxL := 2) (ret := (some .int)) (by decide) rfl (Nat.le_of_ble_eq_true rfl) ?_
  intro p e s m args below meth c S hr hlk hnm hK hKS hA hB ls hl
  have hl : lv_has ls 2 [(0, .ref a), (1, .int x)] := hl
  replace S : CallFix p m c cX1_get 2 s args (_ :: wsL_law) RX1 := S
  have hin : ∀ w ∈ wsX10, w ∈ (Cond.code yX1_get cX1_get 2 (some .int) :: wsL_law) := fun w h => List.mem_cons_of_mem _ (inlX1 w h)
  have hf := S.2.2.2.2 _ (List.mem_cons_of_mem _ wf_X1_13)
  refine lv_iload_n S.1 S.2.1 dX1_get_0 rfl (lv_at hl 1 rfl) ?_
  refine lv_if_lt (tgt := 22) S.1 S.2.1 dX1_get_1 (by decide) (fun c_1 => ?_) (fun c_1 => ?_)
  · rw [show getI n f x = 0 by unfold getI; rw [if_pos c_1]]
    refine lv_iconst (v := 0) S.1 S.2.1 dX1_get_22 (by decide) ?_
    exact gRetI S.1 S.2.1 hr hlk hB dX1_get_23
  · refine lv_iload_n S.1 S.2.1 dX1_get_4 rfl (lv_at hl 1 rfl) ?_
    refine lv_aload_n S.1 S.2.1 dX1_get_5 rfl (lv_at hl 0 rfl) ?_
    refine gGet S hK hB hin 0 rfl rfl 0 (by decide) hf rfl dX1_get_6 ?_
    refine gAlen S hK hB 1 0 rfl rfl dX1_get_9 ?_
    refine lv_icmp_ge (tgt := 22) S.1 S.2.1 dX1_get_10 (by decide) (fun c_2 => ?_) (fun c_2 => ?_)
    · rw [show getI n f x = 0 by unfold getI; rw [if_neg c_1, if_pos c_2]]
      refine lv_iconst (v := 0) S.1 S.2.1 dX1_get_22 (by decide) ?_
      exact gRetI S.1 S.2.1 hr hlk hB dX1_get_23
    · rw [show getI n f x = f x.toNatClampNeg by unfold getI; rw [if_neg c_1, if_neg c_2]]
      refine lv_aload_n S.1 S.2.1 dX1_get_13 rfl (lv_at hl 0 rfl) ?_
      refine gGet S hK hB hin 0 rfl rfl 0 (by decide) hf rfl dX1_get_14 ?_
      refine lv_iload_n S.1 S.2.1 dX1_get_17 rfl (lv_at hl 1 rfl) ?_
      refine gIald S hK hB 1 0 rfl rfl (inOf hn c_1 c_2) dX1_get_18 ?_
      refine lv_goto (tgt := 23) S.1 S.2.1 dX1_get_19 (by decide) ?_
      exact gRetI S.1 S.2.1 hr hlk hB dX1_get_23
set_option maxHeartbeats 4000000 in
theorem kX2_get {f : Nat → Int64} (hn : n < 2 ^ 31) : gMet l yX2_get qX2_get { frames := 0, cells := 0, slots := 0, locals := 0 } 0 0 D vwCl [(cI, .int), (cJ, .long), (cQ, .array .long)] KS [.ref a, .int x] [(a, .inr (2, [.ref q])), (q, .inl (cJ, n, .inr (.inl f)))] [(a, .inr (2, [.ref q])), (q, .inl (cJ, n, .inr (.inl f)))] (some (.long (getL n f x))) := by
  refine gMet.of (cc := cX2_get) (maxL := 2) (ret := (some .long)) (by decide) rfl (Nat.le_of_ble_eq_true rfl) ?_
  intro p e s m args below meth c S hr hlk hnm hK hKS hA hB ls hl
  have hl : lv_has ls 2 [(0, .ref a), (1, .int x)] := hl
  replace S : CallFix p m c cX2_get 2 s args (_ :: wsL_law) RX2 := S
  have hin : ∀ w ∈ wsX20, w ∈ (Cond.code yX2_get cX2_get 2 (some .long) :: wsL_law) := fun w h => List.mem_cons_of_mem _ (inlX2 w h)
  have hf := S.2.2.2.2 _ (List.mem_cons_of_mem _ wf_X2_13)
  refine lv_iload_n S.1 S.2.1 dX2_get_0 rfl (lv_at hl 1 rfl) ?_
  refine lv_if_lt (tgt := 22) S.1 S.2.1 dX2_get_1 (by decide) (fun c_1 => ?_) (fun c_1 => ?_)
  · rw [show getL n f x = 0 by unfold getL; rw [if_pos c_1]]
    refine lv_lconst (v := 0) S.1 S.2.1 dX2_get_22 (by decide) ?_
    exact gRetL S.1 S.2.1 hr hlk hB dX2_get_23
  · refine lv_iload_n S.1 S.2.1 dX2_get_4 rfl (lv_at hl 1 rfl) ?_
    refine lv_aload_n S.1 S.2.1 dX2_get_5 rfl (lv_at hl 0 rfl) ?_
    refine gGet S hK hB hin 0 rfl rfl 0 (by decide) hf rfl dX2_get_6 ?_
    refine gAlen S hK hB 1 1 rfl rfl dX2_get_9 ?_
    refine lv_icmp_ge (tgt := 22) S.1 S.2.1 dX2_get_10 (by decide) (fun c_2 => ?_) (fun c_2 => ?_)
    · rw [show getL n f x = 0 by unfold getL; rw [if_neg c_1, if_pos c_2]]
      refine lv_lconst (v := 0) S.1 S.2.1 dX2_get_22 (by decide) ?_
      exact gRetL S.1 S.2.1 hr hlk hB dX2_get_23
    · rw [show getL n f x = f x.toNatClampNeg by unfold getL; rw [if_neg c_1, if_neg c_2]]
      refine lv_aload_n S.1 S.2.1 dX2_get_13 rfl (lv_at hl 0 rfl) ?_
      refine gGet S hK hB hin 0 rfl rfl 0 (by decide) hf rfl dX2_get_14 ?_
      refine lv_iload_n S.1 S.2.1 dX2_get_17 rfl (lv_at hl 1 rfl) ?_
      refine gLald S hK hB 1 1 rfl rfl (inOf hn c_1 c_2) dX2_get_18 ?_
      refine lv_goto (tgt := 23) S.1 S.2.1 dX2_get_19 (by decide) ?_
      exact gRetL S.1 S.2.1 hr hlk hB dX2_get_23
set_option maxHeartbeats 4000000 in
theorem kX1_put {f : Nat → Int32} {v : Int32} (hn : n < 2 ^ 31) : gMet l yX1_put qX1_put { frames := 0, cells := 0, slots := 0, locals := 0 } 0 0 D vwCl [(cI, .int), (cJ, .long), (cQ, .array .long)] KS [.ref a, .int x, .int v] [(a, .inr (1, [.ref q])), (q, .inl (cI, n, .inl f))] [(a, .inr (1, [.ref q])), (q, .inl (cI, n, .inl (putI n f x v)))] none := by
  refine gMet.of (cc := cX1_put) (maxL := 3) (ret := none) (by decide) rfl (Nat.le_of_ble_eq_true rfl) ?_
  intro p e s m args below meth c S hr hlk hnm hK hKS hA hB ls hl
  have hl : lv_has ls 3 [(0, .ref a), (1, .int x), (2, .int v)] := hl
  replace S : CallFix p m c cX1_put 3 s args (_ :: wsL_law) RX1 := S
  have hin : ∀ w ∈ wsX10, w ∈ (Cond.code yX1_put cX1_put 3 none :: wsL_law) := fun w h => List.mem_cons_of_mem _ (inlX1 w h)
  have hf := S.2.2.2.2 _ (List.mem_cons_of_mem _ wf_X1_13)
  refine lv_iload_n S.1 S.2.1 dX1_put_0 rfl (lv_at hl 1 rfl) ?_
  refine lv_if_lt (tgt := 20) S.1 S.2.1 dX1_put_1 (by decide) (fun c_1 => ?_) (fun c_1 => ?_)
  · rw [show putI n f x v = f by unfold putI; rw [if_pos c_1]]
    exact gRetV S.1 S.2.1 hr hlk hB dX1_put_20
  · refine lv_iload_n S.1 S.2.1 dX1_put_4 rfl (lv_at hl 1 rfl) ?_
    refine lv_aload_n S.1 S.2.1 dX1_put_5 rfl (lv_at hl 0 rfl) ?_
    refine gGet S hK hB hin 0 rfl rfl 0 (by decide) hf rfl dX1_put_6 ?_
    refine gAlen S hK hB 1 0 rfl rfl dX1_put_9 ?_
    refine lv_icmp_ge (tgt := 20) S.1 S.2.1 dX1_put_10 (by decide) (fun c_2 => ?_) (fun c_2 => ?_)
    · rw [show putI n f x v = f by unfold putI; rw [if_neg c_1, if_pos c_2]]
      exact gRetV S.1 S.2.1 hr hlk hB dX1_put_20
    · rw [show putI n f x v = upd f x.toNatClampNeg v by unfold putI; rw [if_neg c_1, if_neg c_2]]
      refine lv_aload_n S.1 S.2.1 dX1_put_13 rfl (lv_at hl 0 rfl) ?_
      refine gGet S hK hB hin 0 rfl rfl 0 (by decide) hf rfl dX1_put_14 ?_
      refine lv_iload_n S.1 S.2.1 dX1_put_17 rfl (lv_at hl 1 rfl) ?_
      refine lv_iload_n S.1 S.2.1 dX1_put_18 rfl (lv_at hl 2 rfl) ?_
      refine gIast S hK hB 1 0 rfl rfl (inOf hn c_1 c_2) rfl dX1_put_19 (fun H locs hB => ?_)
      exact gRetV S.1 S.2.1 hr hlk hB dX1_put_20
set_option maxHeartbeats 4000000 in
theorem kX2_put {f : Nat → Int64} {v : Int64} (hn : n < 2 ^ 31) : gMet l yX2_put qX2_put { frames := 0, cells := 0, slots := 0, locals := 0 } 0 0 D vwCl [(cI, .int), (cJ, .long), (cQ, .array .long)] KS [.ref a, .int x, .long v] [(a, .inr (2, [.ref q])), (q, .inl (cJ, n, .inr (.inl f)))] [(a, .inr (2, [.ref q])), (q, .inl (cJ, n, .inr (.inl (putL n f x v))))] none := by
  refine gMet.of (cc := cX2_put) (maxL := 4) (ret := none) (by decide) rfl (Nat.le_of_ble_eq_true rfl) ?_
  intro p e s m args below meth c S hr hlk hnm hK hKS hA hB ls hl
  have hl : lv_has ls 4 [(0, .ref a), (1, .int x), (2, .long v)] := hl
  replace S : CallFix p m c cX2_put 4 s args (_ :: wsL_law) RX2 := S
  have hin : ∀ w ∈ wsX20, w ∈ (Cond.code yX2_put cX2_put 4 none :: wsL_law) := fun w h => List.mem_cons_of_mem _ (inlX2 w h)
  have hf := S.2.2.2.2 _ (List.mem_cons_of_mem _ wf_X2_13)
  refine lv_iload_n S.1 S.2.1 dX2_put_0 rfl (lv_at hl 1 rfl) ?_
  refine lv_if_lt (tgt := 20) S.1 S.2.1 dX2_put_1 (by decide) (fun c_1 => ?_) (fun c_1 => ?_)
  · rw [show putL n f x v = f by unfold putL; rw [if_pos c_1]]
    exact gRetV S.1 S.2.1 hr hlk hB dX2_put_20
  · refine lv_iload_n S.1 S.2.1 dX2_put_4 rfl (lv_at hl 1 rfl) ?_
    refine lv_aload_n S.1 S.2.1 dX2_put_5 rfl (lv_at hl 0 rfl) ?_
    refine gGet S hK hB hin 0 rfl rfl 0 (by decide) hf rfl dX2_put_6 ?_
    refine gAlen S hK hB 1 1 rfl rfl dX2_put_9 ?_
    refine lv_icmp_ge (tgt := 20) S.1 S.2.1 dX2_put_10 (by decide) (fun c_2 => ?_) (fun c_2 => ?_)
    · rw [show putL n f x v = f by unfold putL; rw [if_neg c_1, if_pos c_2]]
      exact gRetV S.1 S.2.1 hr hlk hB dX2_put_20
    · rw [show putL n f x v = vp_updL f x.toNatClampNeg v by unfold putL; rw [if_neg c_1, if_neg c_2]]
      refine lv_aload_n S.1 S.2.1 dX2_put_13 rfl (lv_at hl 0 rfl) ?_
      refine gGet S hK hB hin 0 rfl rfl 0 (by decide) hf rfl dX2_put_14 ?_
      refine lv_iload_n S.1 S.2.1 dX2_put_17 rfl (lv_at hl 1 rfl) ?_
      refine lv_lload_n S.1 S.2.1 dX2_put_18 rfl (lv_at hl 2 rfl) ?_
      refine gLast S hK hB 1 1 rfl rfl (inOf hn c_1 c_2) rfl dX2_put_19 (fun H locs hB => ?_)
      exact gRetV S.1 S.2.1 hr hlk hB dX2_put_20
end LEAFM
