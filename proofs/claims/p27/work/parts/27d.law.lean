-- the law, behind its first makings
def FL_law_552 (L : Nat) (N : Nat) (xs : Nat → Int32)  : Nat → Int32 → Int32 → Int32 → Int32 → LwS → Option (Int32 × LwS)
  | 0, _, _, _, _, _ => none
  | n+1, x4, x6, x10, x11, σ1 =>
    if x6 ≤ x11 then
      b2 (FX10_share L (0 : Int32) σ1.1) fun o_34 τ_34 => (oRt o_34).bind fun r_34 =>
      if (¬ ((FP.ddiv (FP.i2d x10) (FP.i2d x6)) &&& 0x7fffffffffffffff ≤ 0x7ff0000000000000)) then none else
      if (Op.cmpValue (FP.dcmp r_34 (FP.ddiv (FP.i2d x10) (FP.i2d x6))) CmpOp.l) = 0 then
        some ((1 : Int32), (rC σ1 τ_34))
      else
        some ((0 : Int32), (rC σ1 τ_34))
    else
      b2 (FX10_answer x11 σ1.1) fun o_37 τ_37 => (oRt o_37).bind fun r_37 =>
      b2 (FX10_let (x4 + (4 : Int32)) x11 τ_37) fun o_38 τ_38 => (oRt o_38).bind fun r_38 =>
      if r_38 = 0 then
        if r_37 = (0 : Int32) then
          (FL_law_552 L N xs n) x4 x6 x10 (x11 + (1 : Int32)) (rC (rC σ1 τ_37) τ_38)
        else
          some ((0 : Int32), (rC (rC σ1 τ_37) τ_38))
      else
        b2 (FX10_let (x4 + (5 : Int32)) x11 τ_38) fun o_41 τ_41 => (oRt o_41).bind fun r_41 =>
        if r_41 = 0 then
          if r_37 = (0 : Int32) then
            (FL_law_552 L N xs n) x4 x6 x10 (x11 + (1 : Int32)) (rC (rC (rC σ1 τ_37) τ_38) τ_41)
          else
            some ((0 : Int32), (rC (rC (rC σ1 τ_37) τ_38) τ_41))
        else
          if r_37 = (1 : Int32) then
            (FL_law_552 L N xs n) x4 x6 x10 (x11 + (1 : Int32)) (rC (rC (rC σ1 τ_37) τ_38) τ_41)
          else
            some ((0 : Int32), (rC (rC (rC σ1 τ_37) τ_38) τ_41))
def FL_law_428 (L : Nat) (N : Nat) (xs : Nat → Int32) (k127 : Int32 → Int32 → Int32 → LwS → Option (Int32 × LwS)) (x4 : Int32) (x6 : Int32) (x7 : Int32) (y0 : Int32) (y1 : Int32) (σ1 : LwS) : Option (Int32 × LwS) :=
    if y0 = y1 then
      b2 (FX10_differ L (0 : Int32) (1 : Int32) σ1.1) fun o_72 τ_72 => (oRt o_72).bind fun r_72 =>
      if r_72 = (-1 : Int32) then
        k127 x4 x6 (x7 + (1 : Int32)) (rC σ1 τ_72)
      else
        some ((0 : Int32), (rC σ1 τ_72))
    else
      some ((0 : Int32), σ1)
def FL_law_363 (L : Nat) (N : Nat) (xs : Nat → Int32) (k127 : Int32 → Int32 → Int32 → LwS → Option (Int32 × LwS)) (x4 : Int32) (x6 : Int32) (x7 : Int32) (x9 : Int32) (x13 : Int32) (y0 : Int32) (y1 : Int32) (σ1 : LwS) : Option (Int32 × LwS) :=
    if y0 = y1 then
      b2 (FX10_let (x4 + (5 : Int32)) x7 σ1.1) fun o_63 τ_63 => (oRt o_63).bind fun r_63 =>
      b2 (FX10_let (x4 + (6 : Int32)) x7 τ_63) fun o_64 τ_64 => (oRt o_64).bind fun r_64 =>
      if r_63 = r_64 then
        some ((0 : Int32), (rC (rC σ1 τ_63) τ_64))
      else
        b2 (FX10_watch (0 : Int32) x7 τ_64) fun o_66 τ_66 => (oRt o_66).bind fun r_66 =>
        if r_66 = x13 then
          b2 (FX10_watch (1 : Int32) x7 τ_66) fun o_68 τ_68 => (oRt o_68).bind fun r_68 =>
          if r_68 = x13 then
            if x13 = 0 then
              FL_law_428 L N xs k127 x4 x6 x7 x9 (2 : Int32) (rC (rC (rC (rC σ1 τ_63) τ_64) τ_66) τ_68)
            else
              FL_law_428 L N xs k127 x4 x6 x7 x9 (0 : Int32) (rC (rC (rC (rC σ1 τ_63) τ_64) τ_66) τ_68)
          else
            some ((0 : Int32), (rC (rC (rC (rC σ1 τ_63) τ_64) τ_66) τ_68))
        else
          some ((0 : Int32), (rC (rC (rC σ1 τ_63) τ_64) τ_66))
    else
      some ((0 : Int32), σ1)
def FL_law_358 (L : Nat) (N : Nat) (xs : Nat → Int32) (k127 : Int32 → Int32 → Int32 → LwS → Option (Int32 × LwS)) (x4 : Int32) (x6 : Int32) (x7 : Int32) (x9 : Int32) (x13 : Int32) (y0 : Int32) (σ1 : LwS) : Option (Int32 × LwS) :=
    FL_law_363 L N xs k127 x4 x6 x7 x9 x13 y0 (1 : Int32) σ1
def FL_law_362 (L : Nat) (N : Nat) (xs : Nat → Int32) (k127 : Int32 → Int32 → Int32 → LwS → Option (Int32 × LwS)) (x4 : Int32) (x6 : Int32) (x7 : Int32) (x9 : Int32) (x13 : Int32) (y0 : Int32) (σ1 : LwS) : Option (Int32 × LwS) :=
    FL_law_363 L N xs k127 x4 x6 x7 x9 x13 y0 (0 : Int32) σ1
def FL_law_321 (L : Nat) (N : Nat) (xs : Nat → Int32) (k127 : Int32 → Int32 → Int32 → LwS → Option (Int32 × LwS)) (x4 : Int32) (x6 : Int32) (x7 : Int32) (x9 : Int32) (x10 : Int32) (x11 : Int32) (x13 : Int32) (x14 : Int32) (y0 : Int32) (y1 : Int32) (σ1 : LwS) : Option (Int32 × LwS) :=
    if y0 = y1 then
      if x11 = 0 then
        if x10 = 0 then
          FL_law_362 L N xs k127 x4 x6 x7 x9 x13 x14 σ1
        else
          if x7 ≤ 0 then
            FL_law_362 L N xs k127 x4 x6 x7 x9 x13 x14 σ1
          else
            b2 (FX10_let (x4 + (4 : Int32)) (x7 - (1 : Int32)) σ1.1) fun o_76 τ_76 => (oRt o_76).bind fun r_76 =>
            if r_76 = 0 then
              FL_law_362 L N xs k127 x4 x6 x7 x9 x13 x14 (rC σ1 τ_76)
            else
              FL_law_358 L N xs k127 x4 x6 x7 x9 x13 x14 (rC σ1 τ_76)
      else
        FL_law_358 L N xs k127 x4 x6 x7 x9 x13 x14 σ1
    else
      some ((0 : Int32), σ1)
def FL_law_320 (L : Nat) (N : Nat) (xs : Nat → Int32) (k127 : Int32 → Int32 → Int32 → LwS → Option (Int32 × LwS)) (x4 : Int32) (x6 : Int32) (x7 : Int32) (x9 : Int32) (x10 : Int32) (x11 : Int32) (x13 : Int32) (x14 : Int32) (y0 : Int32) (σ1 : LwS) : Option (Int32 × LwS) :=
    FL_law_321 L N xs k127 x4 x6 x7 x9 x10 x11 x13 x14 y0 (0 : Int32) σ1
def FL_law_316 (L : Nat) (N : Nat) (xs : Nat → Int32) (k127 : Int32 → Int32 → Int32 → LwS → Option (Int32 × LwS)) (x4 : Int32) (x6 : Int32) (x7 : Int32) (x9 : Int32) (x10 : Int32) (x11 : Int32) (x13 : Int32) (x14 : Int32) (y0 : Int32) (σ1 : LwS) : Option (Int32 × LwS) :=
    FL_law_321 L N xs k127 x4 x6 x7 x9 x10 x11 x13 x14 y0 (1 : Int32) σ1
def FL_law_286 (L : Nat) (N : Nat) (xs : Nat → Int32) (k127 : Int32 → Int32 → Int32 → LwS → Option (Int32 × LwS)) (x4 : Int32) (x6 : Int32) (x7 : Int32) (x9 : Int32) (x10 : Int32) (x11 : Int32) (x13 : Int32) (x14 : Int32) (y0 : Int32) (y1 : Int32) (σ1 : LwS) : Option (Int32 × LwS) :=
    if y0 = y1 then
      if x10 = 0 then
        FL_law_320 L N xs k127 x4 x6 x7 x9 x10 x11 x13 x14 x13 σ1
      else
        if x7 = 0 then
          FL_law_316 L N xs k127 x4 x6 x7 x9 x10 x11 x13 x14 x13 σ1
        else
          b2 (FX10_let (x4 + (3 : Int32)) (x7 - (1 : Int32)) σ1.1) fun o_79 τ_79 => (oRt o_79).bind fun r_79 =>
          if r_79 = 0 then
            FL_law_320 L N xs k127 x4 x6 x7 x9 x10 x11 x13 x14 x13 (rC σ1 τ_79)
          else
            FL_law_316 L N xs k127 x4 x6 x7 x9 x10 x11 x13 x14 x13 (rC σ1 τ_79)
    else
      some ((0 : Int32), σ1)
def FL_law_281 (L : Nat) (N : Nat) (xs : Nat → Int32) (k127 : Int32 → Int32 → Int32 → LwS → Option (Int32 × LwS)) (x4 : Int32) (x6 : Int32) (x7 : Int32) (x9 : Int32) (x10 : Int32) (x11 : Int32) (x13 : Int32) (x14 : Int32) (y0 : Int32) (σ1 : LwS) : Option (Int32 × LwS) :=
    FL_law_286 L N xs k127 x4 x6 x7 x9 x10 x11 x13 x14 y0 (1 : Int32) σ1
def FL_law_285 (L : Nat) (N : Nat) (xs : Nat → Int32) (k127 : Int32 → Int32 → Int32 → LwS → Option (Int32 × LwS)) (x4 : Int32) (x6 : Int32) (x7 : Int32) (x9 : Int32) (x10 : Int32) (x11 : Int32) (x13 : Int32) (x14 : Int32) (y0 : Int32) (σ1 : LwS) : Option (Int32 × LwS) :=
    FL_law_286 L N xs k127 x4 x6 x7 x9 x10 x11 x13 x14 y0 (0 : Int32) σ1
def FL_law_127 (L : Nat) (N : Nat) (xs : Nat → Int32)  : Nat → Int32 → Int32 → Int32 → LwS → Option (Int32 × LwS)
  | 0, _, _, _, _ => none
  | n+1, x4, x6, x7, σ1 =>
    if x6 ≤ x7 then
      b2 (FX10_keep L σ1.1) fun r_15 τ_15 =>
      b2 (FX10_digest L τ_15) fun r_16 τ_16 =>
      (FL_cell N xs (14 : Int32)).bind fun r_17 =>
      (FL_below r_17 x6).bind fun r_18 =>
      b2 (FX10_back r_18 τ_16) fun o_19 τ_19 => (oRt o_19).bind fun r_19 =>
      b2 (FX10_replay L τ_19) fun o_20 τ_20 => (oRt o_20).bind fun r_20 =>
      b2 (FX10_told L (0 : Int32) (1 : Int32) τ_20) fun o_21 τ_21 => (oRt o_21).bind fun r_21 =>
      if r_20 = (x6 - r_21) then
        b2 (FX10_count (4 : Int32) τ_21) fun o_23 τ_23 => (oRt o_23).bind fun r_23 =>
        if r_23 = x6 then
          b2 (FX10_digest L τ_23) fun r_25 τ_25 =>
          if r_25 = r_16 then
            if ((0 : Int32) < 0 ∨ 1700 ≤ (0 : Int32).toNatClampNeg) then none else
            b2 (FL_put L 96 (rR (rC (rC (rC (rC (rC (rC (rC σ1 τ_15) τ_16) τ_19) τ_20) τ_21) τ_23) τ_25) 0 (upd (σ1.2 0) (0 : Int32).toNatClampNeg (0 : Int32)))) fun (_ : Unit) σ_28 =>
            b2 (FL_lay L σ_28) fun r_29 σ_29 =>
            if r_29 = 0 then
              some ((0 : Int32), σ_29)
            else
              b2 (FX10_ask L σ_29.1) fun r_31 τ_31 =>
              if r_31 = 0 then
                FL_law_552 L N xs 14 x4 x6 r_20 (0 : Int32) (rC σ_29 τ_31)
              else
                some ((0 : Int32), (rC σ_29 τ_31))
          else
            some ((0 : Int32), (rC (rC (rC (rC (rC (rC (rC σ1 τ_15) τ_16) τ_19) τ_20) τ_21) τ_23) τ_25))
        else
          some ((0 : Int32), (rC (rC (rC (rC (rC (rC σ1 τ_15) τ_16) τ_19) τ_20) τ_21) τ_23))
      else
        some ((0 : Int32), (rC (rC (rC (rC (rC σ1 τ_15) τ_16) τ_19) τ_20) τ_21))
    else
      (FL_cell N xs ((9 : Int32) + (x7 - x7 / (5 : Int32) * (5 : Int32)))).bind fun r_45 =>
      (FL_below (r_45 >>> (((x7 / (5 : Int32)) * (5 : Int32)) &&& 31)) (4 : Int32)).bind fun r_46 =>
      b2 (FX10_set (0 : Int32) r_46.toInt64 σ1.1) fun o_47 τ_47 => (oRt o_47).bind fun r_47 =>
      (FL_below ((r_45 >>> (((x7 / (5 : Int32)) * (5 : Int32)) &&& 31)) >>> ((2 : Int32) &&& 31)) (4 : Int32)).bind fun r_48 =>
      b2 (FX10_set (1 : Int32) r_48.toInt64 τ_47) fun o_49 τ_49 => (oRt o_49).bind fun r_49 =>
      (FL_below ((r_45 >>> (((x7 / (5 : Int32)) * (5 : Int32)) &&& 31)) >>> ((4 : Int32) &&& 31)) (3 : Int32)).bind fun r_50 =>
      b2 (FX10_tick L r_50 τ_49) fun o_51 τ_51 => (oRt o_51).bind fun r_51 =>
      b2 (FX10_let x4 x7 τ_51) fun o_52 τ_52 => (oRt o_52).bind fun r_52 =>
      b2 (FX10_let (x4 + (1 : Int32)) x7 τ_52) fun o_53 τ_53 => (oRt o_53).bind fun r_53 =>
      b2 (FX10_let (x4 + (2 : Int32)) x7 τ_53) fun o_54 τ_54 => (oRt o_54).bind fun r_54 =>
      b2 (FX10_let (x4 + (3 : Int32)) x7 τ_54) fun o_55 τ_55 => (oRt o_55).bind fun r_55 =>
      b2 (FX10_let (x4 + (4 : Int32)) x7 τ_55) fun o_56 τ_56 => (oRt o_56).bind fun r_56 =>
      if r_52 = 0 then
        if x7 ≤ 0 then
          FL_law_285 L N xs (FL_law_127 L N xs n) x4 x6 x7 r_51 r_52 r_53 r_55 r_56 r_54 (rC (rC (rC (rC (rC (rC (rC (rC σ1 τ_47) τ_49) τ_51) τ_52) τ_53) τ_54) τ_55) τ_56)
        else
          b2 (FX10_let (x4 + (2 : Int32)) (x7 - (1 : Int32)) τ_56) fun o_82 τ_82 => (oRt o_82).bind fun r_82 =>
          if r_82 = 0 then
            FL_law_285 L N xs (FL_law_127 L N xs n) x4 x6 x7 r_51 r_52 r_53 r_55 r_56 r_54 (rC (rC (rC (rC (rC (rC (rC (rC (rC σ1 τ_47) τ_49) τ_51) τ_52) τ_53) τ_54) τ_55) τ_56) τ_82)
          else
            FL_law_281 L N xs (FL_law_127 L N xs n) x4 x6 x7 r_51 r_52 r_53 r_55 r_56 r_54 (rC (rC (rC (rC (rC (rC (rC (rC (rC σ1 τ_47) τ_49) τ_51) τ_52) τ_53) τ_54) τ_55) τ_56) τ_82)
      else
        FL_law_281 L N xs (FL_law_127 L N xs n) x4 x6 x7 r_51 r_52 r_53 r_55 r_56 r_54 (rC (rC (rC (rC (rC (rC (rC (rC σ1 τ_47) τ_49) τ_51) τ_52) τ_53) τ_54) τ_55) τ_56)
def FL_law (L : Nat) (N : Nat) (xs : Nat → Int32) (σ : LwS) : Option (Int32 × LwS) :=
  b2 (FL_parts L N xs (0 : Int32) (6 : Int32) σ) fun r_1 σ_1 =>
  b2 (FL_put L 93 σ_1) fun (_ : Unit) σ_2 =>
  b2 (FL_put_ (r_1 - (1 : Int32)) σ_2) fun (_ : Unit) σ_3 =>
  b2 (FL_put L 94 σ_3) fun (_ : Unit) σ_4 =>
  b2 (FL_put_ (r_1 - (2 : Int32)) σ_4) fun (_ : Unit) σ_5 =>
  b2 (FL_put L 95 σ_5) fun (_ : Unit) σ_6 =>
  b2 (FL_lay L σ_6) fun r_7 σ_7 =>
  if r_7 = 0 then
    some ((0 : Int32), σ_7)
  else
    b2 (FX10_compile L σ_7.1) fun r_9 τ_9 =>
    if (r_1 + (7 : Int32)) ≤ (12 : Int32) then
      if r_9 = 0 then
        (FL_cell N xs (8 : Int32)).bind fun r_12 =>
        (FL_below r_12 (12 : Int32)).bind fun r_13 =>
        FL_law_127 L N xs 14 r_1 ((1 : Int32) + r_13) (0 : Int32) (rC σ_7 τ_9)
      else
        some ((0 : Int32), (rC σ_7 τ_9))
    else
      if r_9 = (4 : Int32) then
        some ((1 : Int32), (rC σ_7 τ_9))
      else
        some ((0 : Int32), (rC σ_7 τ_9))
set_option maxRecDepth 100000 in
set_option maxHeartbeats 16000000 in
theorem lw_main {p : Program} {l : Launch} {e : Env} {s : State} {m : MethodId} {args : Array Value} {below : List Frame} {meth : Method} {c : Code} {Q : State → Prop} {ls : Array Slot} {D : va_G} {A : Nat → Prop} {k0 : Cond} {cI cJ cQ : ClassId} {ad : Nat → Nat} {ra : Nat → Nat → Nat} {ar : Nat → Nat} {adK adV tK : Nat → Nat} {b N : Nat} {xs : Nat → Int32} {L : Nat} {H : Heap} {locs : List Loc} {cl sl : Nat} {σ σ' : LwS} (hl9 : l.stackTraces = false) (h : FL_law L N xs σ = some (1, σ')) (S : CallFix p m c cL_law 15 s args (k0 :: wsL_law) RL) (hK : va_K D vwCl [(cI, .int), (cJ, .long), (cQ, .array .long)] s) (hKS : lKS adK adV tK b N xs A s) (hA : ∀ q, s.heap.size ≤ q → A q) (hB : gB D vwCl A s.heap (LwW cI cJ cQ ad ra ar σ) [] H locs) (hl : lv_has ls 15 [(3, .ref (ar 1)), (2, .ref (ar 0)), (1, .ref (ad 0)), (0, .ref b)]) (g1 : cl + 645 ≤ 600086) (g2 : sl + 3684 ≤ 7301442)
    (kend : ∀ (pc : Nat) (H : Heap) (locs : List Loc) (ls : Array Slot) (cells slots : Nat), decode cL_law pc = .ok (.ireturn, 1) → va_S A s.heap H locs → cells ≤ room_1.cells → slots ≤ room_1.slots → W p l e room_1 s m args below meth c H locs cells slots Q (F0 m pc ls [.int 1])) : W p l e room_1 s m args below meth c H locs cl sl Q (F0 m 19 ls []) := by
  rw [FL_law] at h
  have P552 : ∀  (n : Nat), ∀ (x4 : Int32) (x6 : Int32) (x10 : Int32) (x11 : Int32) (σ1 : LwS) (H : Heap) (locs : List Loc) (ls : Array Slot) (cl sl : Nat), cl + n * 3 + 1 ≤ 600086 → sl + n * 18 + 6 ≤ 7301442 → FL_law_552 L N xs n x4 x6 x10 x11 σ1 = some (1, σ') → gB D vwCl A s.heap (LwW cI cJ cQ ad ra ar σ1) [] H locs → lv_has ls 15 [(1, .ref (ad 0)), (4, .int x4), (6, .int x6), (10, .int x10), (11, .int x11)] → W p l e room_1 s m args below meth c H locs cl sl Q (F0 m 552 ls []) := by
    intro n
    induction n with
    | zero => intro x4 x6 x10 x11 σ1 H locs ls cl sl g1 g2 h; simp only [FL_law_552] at h; cases h
    | succ n ih =>
      intro x4 x6 x10 x11 σ1 H locs ls cl sl g1 g2 h hB hl
      rw [FL_law_552] at h
      obtain ⟨kb552, hkb552⟩ : ∃ z, z = (600086 - n * 3 - 1) := ⟨_, rfl⟩
      obtain ⟨ks552, hks552⟩ : ∃ z, z = (7301442 - n * 18 - 6) := ⟨_, rfl⟩
      have hb552 : kb552 ≤ 600086 ∧ ks552 ≤ 7301442 := ⟨by omega, by omega⟩
      have ihc : ∀ (x4 : Int32) (x6 : Int32) (x10 : Int32) (x11 : Int32) (σ1 : LwS) (H : Heap) (locs : List Loc) (ls : Array Slot) (cl sl : Nat), cl ≤ kb552 → sl ≤ ks552 → (FL_law_552 L N xs n) x4 x6 x10 x11 σ1 = some (1, σ') → gB D vwCl A s.heap (LwW cI cJ cQ ad ra ar σ1) [] H locs → lv_has ls 15 [(1, .ref (ad 0)), (4, .int x4), (6, .int x6), (10, .int x10), (11, .int x11)] → W p l e room_1 s m args below meth c H locs cl sl Q (F0 m 552 ls []) := fun x4 x6 x10 x11 σ1 H locs ls cl sl q1 q2 h hB hl => ih x4 x6 x10 x11 σ1 H locs ls cl sl (by omega) (by omega) h hB hl
      refine lv_iload S.1 S.2.1 dL_law_552 (lv_at hl 4 rfl) ?_
      refine lv_iload S.1 S.2.1 dL_law_554 (lv_at hl 2 rfl) ?_
      refine lv_icmp_ge (tgt := 607) S.1 S.2.1 dL_law_556 (by decide) (fun c_33 => ?_) (fun c_33 => ?_)
      · replace h := (if_pos c_33).symm.trans h
        refine lv_aload_n S.1 S.2.1 dL_law_607 rfl (lv_at hl 0 rfl) ?_
        refine lv_iconst (v := (0 : Int32)) S.1 S.2.1 dL_law_608 (by decide) ?_
        obtain ⟨o_34, τ_34, e_34, h⟩ := b2s h
        obtain ⟨r_34, u_34, h⟩ := bnd h
        rw [oRt_eq u_34] at e_34
        replace hB := lwC hB
        refine gCallR (v0 := some (.double r_34)) (ci := 10) S hK lKSc hKS hA (gMetX.weak (kX10_share hl9 e_34) (fun _ _ q => q.1.1)) (cwL_153 S.2.2.2.2 (rm := rmX10_share) rfl rfl ⟨(Nat.le_of_ble_eq_true rfl), (Nat.le_of_ble_eq_true rfl)⟩) hB 0 rfl rfl rfl hl.1 rfl (lv_room (Nat.le_of_ble_eq_true rfl)) dL_law_609 ⟨by dsimp only [room_1]; omega, by dsimp only [room_1]; omega⟩ (fun H locs hB => ?_)
        replace hB : gB D vwCl _ _ (LwW cI cJ cQ ad ra ar (rC σ1 τ_34)) [] _ _ := lwC2 hB
        refine lv_iload S.1 S.2.1 dL_law_612 (lv_at hl 3 rfl) ?_
        refine lv_i2d S.1 S.2.1 dL_law_614 ?_
        refine lv_iload S.1 S.2.1 dL_law_615 (lv_at hl 2 rfl) ?_
        refine lv_i2d S.1 S.2.1 dL_law_617 ?_
        obtain ⟨z_35, h⟩ := gd h
        refine lv_ddiv S.1 S.2.1 dL_law_618 (Classical.not_not.mp z_35) ?_
        refine lv_dcmp S.1 S.2.1 dL_law_619 ?_
        refine lv_if_ne (tgt := 627) S.1 S.2.1 dL_law_620 (by decide) (fun c_36 => ?_) (fun c_36 => ?_)
        · replace h := (if_neg c_36).symm.trans h
          refine lv_iconst (v := (0 : Int32)) S.1 S.2.1 dL_law_627 (by decide) ?_
          exact absurd (congrArg Prod.fst (Option.some.inj h)) (show ¬ ((0 : Int32) = 1) by decide)
        · replace h := (if_pos c_36).symm.trans h
          refine lv_iconst (v := (1 : Int32)) S.1 S.2.1 dL_law_623 (by decide) ?_
          refine lv_goto (tgt := 628) S.1 S.2.1 dL_law_624 (by decide) ?_
          exact kend 628 _ _ _ _ _ dL_law_628 hB.2.2 (by dsimp only [room_1]; omega) (by dsimp only [room_1]; omega)
      · replace h := (if_neg c_33).symm.trans h
        refine lv_aload_n S.1 S.2.1 dL_law_559 rfl (lv_at hl 0 rfl) ?_
        refine lv_iload S.1 S.2.1 dL_law_560 (lv_at hl 4 rfl) ?_
        obtain ⟨o_37, τ_37, e_37, h⟩ := b2s h
        obtain ⟨r_37, u_37, h⟩ := bnd h
        rw [oRt_eq u_37] at e_37
        replace hB := lwC hB
        refine gCallR (v0 := some (.int r_37)) (ci := 10) S hK lKSc hKS hA (gMetX.weak (kX10_answer hl9 e_37) (fun _ _ q => q.1.1)) (cwL_149 S.2.2.2.2 (rm := rmX10_answer) rfl rfl ⟨(Nat.le_of_ble_eq_true rfl), (Nat.le_of_ble_eq_true rfl)⟩) hB 0 rfl rfl rfl hl.1 rfl (lv_room (Nat.le_of_ble_eq_true rfl)) dL_law_562 ⟨by dsimp only [room_1]; omega, by dsimp only [room_1]; omega⟩ (fun H locs hB => ?_)
        replace hB : gB D vwCl _ _ (LwW cI cJ cQ ad ra ar (rC σ1 τ_37)) [] _ _ := lwC2 hB
        refine lv_aload_n S.1 S.2.1 dL_law_565 rfl (lv_at hl 0 rfl) ?_
        refine lv_iload S.1 S.2.1 dL_law_566 (lv_at hl 1 rfl) ?_
        refine lv_iconst (v := (4 : Int32)) S.1 S.2.1 dL_law_568 (by decide) ?_
        refine lv_iadd S.1 S.2.1 dL_law_569 ?_
        refine lv_iload S.1 S.2.1 dL_law_570 (lv_at hl 4 rfl) ?_
        obtain ⟨o_38, τ_38, e_38, h⟩ := b2s h
        obtain ⟨r_38, u_38, h⟩ := bnd h
        rw [oRt_eq u_38] at e_38
        replace hB := lwC hB
        refine gCallR (v0 := some (.int r_38)) (ci := 10) S hK lKSc hKS hA (gMetX.weak (kX10_let hl9 e_38) (fun _ _ q => q.1.1)) (cwL_118 S.2.2.2.2 (rm := rmX10_let) rfl rfl ⟨(Nat.le_of_ble_eq_true rfl), (Nat.le_of_ble_eq_true rfl)⟩) hB 0 rfl rfl rfl hl.1 rfl (lv_room (Nat.le_of_ble_eq_true rfl)) dL_law_572 ⟨by dsimp only [room_1]; omega, by dsimp only [room_1]; omega⟩ (fun H locs hB => ?_)
        replace hB : gB D vwCl _ _ (LwW cI cJ cQ ad ra ar (rC (rC σ1 τ_37) τ_38)) [] _ _ := lwC2 hB
        refine lv_if_eq (tgt := 595) S.1 S.2.1 dL_law_575 (by decide) (fun c_39 => ?_) (fun c_39 => ?_)
        · replace h := (if_pos c_39).symm.trans h
          refine lv_iconst (v := (0 : Int32)) S.1 S.2.1 dL_law_595 (by decide) ?_
          refine lv_icmp_eq (tgt := 601) S.1 S.2.1 dL_law_596 (by decide) (fun c_40 => ?_) (fun c_40 => ?_)
          · replace h := (if_pos c_40).symm.trans h
            refine lv_iinc (v := (x11 + (1 : Int32))) (lv' := [(11, .int (x11 + (1 : Int32))), (1, .ref (ad 0)), (4, .int x4), (6, .int x6), (10, .int x10)]) S.1 S.2.1 dL_law_601 hl (k := 4) rfl rfl (by decide) rfl (fun ls hl => ?_)
            refine lv_goto (tgt := 552) S.1 S.2.1 dL_law_604 (by decide) ?_
            exact ihc _ _ _ _ _ _ _ _ _ _ (by omega) (by omega) h hB (lv_sub hl [1, 2, 3, 4, 0] rfl)
          · replace h := (if_neg c_40).symm.trans h
            refine lv_iconst (v := (0 : Int32)) S.1 S.2.1 dL_law_599 (by decide) ?_
            exact absurd (congrArg Prod.fst (Option.some.inj h)) (show ¬ ((0 : Int32) = 1) by decide)
        · replace h := (if_neg c_39).symm.trans h
          refine lv_aload_n S.1 S.2.1 dL_law_578 rfl (lv_at hl 0 rfl) ?_
          refine lv_iload S.1 S.2.1 dL_law_579 (lv_at hl 1 rfl) ?_
          refine lv_iconst (v := (5 : Int32)) S.1 S.2.1 dL_law_581 (by decide) ?_
          refine lv_iadd S.1 S.2.1 dL_law_582 ?_
          refine lv_iload S.1 S.2.1 dL_law_583 (lv_at hl 4 rfl) ?_
          obtain ⟨o_41, τ_41, e_41, h⟩ := b2s h
          obtain ⟨r_41, u_41, h⟩ := bnd h
          rw [oRt_eq u_41] at e_41
          replace hB := lwC hB
          refine gCallR (v0 := some (.int r_41)) (ci := 10) S hK lKSc hKS hA (gMetX.weak (kX10_let hl9 e_41) (fun _ _ q => q.1.1)) (cwL_118 S.2.2.2.2 (rm := rmX10_let) rfl rfl ⟨(Nat.le_of_ble_eq_true rfl), (Nat.le_of_ble_eq_true rfl)⟩) hB 0 rfl rfl rfl hl.1 rfl (lv_room (Nat.le_of_ble_eq_true rfl)) dL_law_585 ⟨by dsimp only [room_1]; omega, by dsimp only [room_1]; omega⟩ (fun H locs hB => ?_)
          replace hB : gB D vwCl _ _ (LwW cI cJ cQ ad ra ar (rC (rC (rC σ1 τ_37) τ_38) τ_41)) [] _ _ := lwC2 hB
          refine lv_if_eq (tgt := 595) S.1 S.2.1 dL_law_588 (by decide) (fun c_42 => ?_) (fun c_42 => ?_)
          · replace h := (if_pos c_42).symm.trans h
            refine lv_iconst (v := (0 : Int32)) S.1 S.2.1 dL_law_595 (by decide) ?_
            refine lv_icmp_eq (tgt := 601) S.1 S.2.1 dL_law_596 (by decide) (fun c_43 => ?_) (fun c_43 => ?_)
            · replace h := (if_pos c_43).symm.trans h
              refine lv_iinc (v := (x11 + (1 : Int32))) (lv' := [(11, .int (x11 + (1 : Int32))), (1, .ref (ad 0)), (4, .int x4), (6, .int x6), (10, .int x10)]) S.1 S.2.1 dL_law_601 hl (k := 4) rfl rfl (by decide) rfl (fun ls hl => ?_)
              refine lv_goto (tgt := 552) S.1 S.2.1 dL_law_604 (by decide) ?_
              exact ihc _ _ _ _ _ _ _ _ _ _ (by omega) (by omega) h hB (lv_sub hl [1, 2, 3, 4, 0] rfl)
            · replace h := (if_neg c_43).symm.trans h
              refine lv_iconst (v := (0 : Int32)) S.1 S.2.1 dL_law_599 (by decide) ?_
              exact absurd (congrArg Prod.fst (Option.some.inj h)) (show ¬ ((0 : Int32) = 1) by decide)
          · replace h := (if_neg c_42).symm.trans h
            refine lv_iconst (v := (1 : Int32)) S.1 S.2.1 dL_law_591 (by decide) ?_
            refine lv_goto (tgt := 596) S.1 S.2.1 dL_law_592 (by decide) ?_
            refine lv_icmp_eq (tgt := 601) S.1 S.2.1 dL_law_596 (by decide) (fun c_44 => ?_) (fun c_44 => ?_)
            · replace h := (if_pos c_44).symm.trans h
              refine lv_iinc (v := (x11 + (1 : Int32))) (lv' := [(11, .int (x11 + (1 : Int32))), (1, .ref (ad 0)), (4, .int x4), (6, .int x6), (10, .int x10)]) S.1 S.2.1 dL_law_601 hl (k := 4) rfl rfl (by decide) rfl (fun ls hl => ?_)
              refine lv_goto (tgt := 552) S.1 S.2.1 dL_law_604 (by decide) ?_
              exact ihc _ _ _ _ _ _ _ _ _ _ (by omega) (by omega) h hB (lv_sub hl [1, 2, 3, 4, 0] rfl)
            · replace h := (if_neg c_44).symm.trans h
              refine lv_iconst (v := (0 : Int32)) S.1 S.2.1 dL_law_599 (by decide) ?_
              exact absurd (congrArg Prod.fst (Option.some.inj h)) (show ¬ ((0 : Int32) = 1) by decide)
  have P428 : ∀ (k127 : Int32 → Int32 → Int32 → LwS → Option (Int32 × LwS)) (kb127 ks127 : Nat) (hb127 : kb127 ≤ 600086 ∧ ks127 ≤ 7301442) (hk127 : ∀ (x4 : Int32) (x6 : Int32) (x7 : Int32) (σ1 : LwS) (H : Heap) (locs : List Loc) (ls : Array Slot) (cl sl : Nat), cl ≤ kb127 → sl ≤ ks127 → k127 x4 x6 x7 σ1 = some (1, σ') → gB D vwCl A s.heap (LwW cI cJ cQ ad ra ar σ1) [] H locs → lv_has ls 15 [(0, .ref b), (1, .ref (ad 0)), (2, .ref (ar 0)), (4, .int x4), (6, .int x6), (7, .int x7)] → W p l e room_1 s m args below meth c H locs cl sl Q (F0 m 127 ls [])), ∀ (x4 : Int32) (x6 : Int32) (x7 : Int32) (y0 : Int32) (y1 : Int32) (σ1 : LwS) (H : Heap) (locs : List Loc) (ls : Array Slot) (cl sl : Nat), cl + 1 ≤ kb127 → sl + 6 ≤ ks127 → FL_law_428 L N xs k127 x4 x6 x7 y0 y1 σ1 = some (1, σ') → gB D vwCl A s.heap (LwW cI cJ cQ ad ra ar σ1) [] H locs → lv_has ls 15 [(0, .ref b), (1, .ref (ad 0)), (2, .ref (ar 0)), (4, .int x4), (6, .int x6), (7, .int x7)] → W p l e room_1 s m args below meth c H locs cl sl Q (F0 m 428 ls [.int y1, .int y0]) := by
    intro k127 kb127 ks127 hb127 hk127 x4 x6 x7 y0 y1 σ1 H locs ls cl sl g1 g2 h hB hl
    rw [FL_law_428] at h
    refine lv_icmp_ne (tgt := 441) S.1 S.2.1 dL_law_428 (by decide) (fun c_71 => ?_) (fun c_71 => ?_)
    · replace h := (if_neg c_71).symm.trans h
      refine lv_iconst (v := (0 : Int32)) S.1 S.2.1 dL_law_441 (by decide) ?_
      exact absurd (congrArg Prod.fst (Option.some.inj h)) (show ¬ ((0 : Int32) = 1) by decide)
    · replace h := (if_pos c_71).symm.trans h
      refine lv_aload_n S.1 S.2.1 dL_law_431 rfl (lv_at hl 1 rfl) ?_
      refine lv_iconst (v := (0 : Int32)) S.1 S.2.1 dL_law_432 (by decide) ?_
      refine lv_iconst (v := (1 : Int32)) S.1 S.2.1 dL_law_433 (by decide) ?_
      obtain ⟨o_72, τ_72, e_72, h⟩ := b2s h
      obtain ⟨r_72, u_72, h⟩ := bnd h
      rw [oRt_eq u_72] at e_72
      replace hB := lwC hB
      refine gCallR (v0 := some (.int r_72)) (ci := 10) S hK lKSc hKS hA (gMetX.weak (kX10_differ hl9 e_72) (fun _ _ q => q.1.1)) (cwL_125 S.2.2.2.2 (rm := rmX10_differ) rfl rfl ⟨(Nat.le_of_ble_eq_true rfl), (Nat.le_of_ble_eq_true rfl)⟩) hB 0 rfl rfl rfl hl.1 rfl (lv_room (Nat.le_of_ble_eq_true rfl)) dL_law_434 ⟨by dsimp only [room_1]; omega, by dsimp only [room_1]; omega⟩ (fun H locs hB => ?_)
      replace hB : gB D vwCl _ _ (LwW cI cJ cQ ad ra ar (rC σ1 τ_72)) [] _ _ := lwC2 hB
      refine lv_iconst (v := (-1 : Int32)) S.1 S.2.1 dL_law_437 (by decide) ?_
      refine lv_icmp_eq (tgt := 443) S.1 S.2.1 dL_law_438 (by decide) (fun c_73 => ?_) (fun c_73 => ?_)
      · replace h := (if_pos c_73).symm.trans h
        refine lv_iinc (v := (x7 + (1 : Int32))) (lv' := [(7, .int (x7 + (1 : Int32))), (0, .ref b), (1, .ref (ad 0)), (2, .ref (ar 0)), (4, .int x4), (6, .int x6)]) S.1 S.2.1 dL_law_443 hl (k := 5) rfl rfl (by decide) rfl (fun ls hl => ?_)
        refine lv_goto (tgt := 127) S.1 S.2.1 dL_law_446 (by decide) ?_
        exact hk127 _ _ _ _ _ _ _ _ _ (by omega) (by omega) h hB (lv_sub hl [1, 2, 3, 4, 5, 0] rfl)
      · replace h := (if_neg c_73).symm.trans h
        refine lv_iconst (v := (0 : Int32)) S.1 S.2.1 dL_law_441 (by decide) ?_
        exact absurd (congrArg Prod.fst (Option.some.inj h)) (show ¬ ((0 : Int32) = 1) by decide)
  have P363 : ∀ (k127 : Int32 → Int32 → Int32 → LwS → Option (Int32 × LwS)) (kb127 ks127 : Nat) (hb127 : kb127 ≤ 600086 ∧ ks127 ≤ 7301442) (hk127 : ∀ (x4 : Int32) (x6 : Int32) (x7 : Int32) (σ1 : LwS) (H : Heap) (locs : List Loc) (ls : Array Slot) (cl sl : Nat), cl ≤ kb127 → sl ≤ ks127 → k127 x4 x6 x7 σ1 = some (1, σ') → gB D vwCl A s.heap (LwW cI cJ cQ ad ra ar σ1) [] H locs → lv_has ls 15 [(0, .ref b), (1, .ref (ad 0)), (2, .ref (ar 0)), (4, .int x4), (6, .int x6), (7, .int x7)] → W p l e room_1 s m args below meth c H locs cl sl Q (F0 m 127 ls [])), ∀ (x4 : Int32) (x6 : Int32) (x7 : Int32) (x9 : Int32) (x13 : Int32) (y0 : Int32) (y1 : Int32) (σ1 : LwS) (H : Heap) (locs : List Loc) (ls : Array Slot) (cl sl : Nat), cl + 5 ≤ kb127 → sl + 30 ≤ ks127 → FL_law_363 L N xs k127 x4 x6 x7 x9 x13 y0 y1 σ1 = some (1, σ') → gB D vwCl A s.heap (LwW cI cJ cQ ad ra ar σ1) [] H locs → lv_has ls 15 [(0, .ref b), (1, .ref (ad 0)), (2, .ref (ar 0)), (4, .int x4), (6, .int x6), (7, .int x7), (9, .int x9), (13, .int x13)] → W p l e room_1 s m args below meth c H locs cl sl Q (F0 m 363 ls [.int y1, .int y0]) := by
    intro k127 kb127 ks127 hb127 hk127 x4 x6 x7 x9 x13 y0 y1 σ1 H locs ls cl sl g1 g2 h hB hl
    rw [FL_law_363] at h
    refine lv_icmp_ne (tgt := 390) S.1 S.2.1 dL_law_363 (by decide) (fun c_62 => ?_) (fun c_62 => ?_)
    · replace h := (if_neg c_62).symm.trans h
      refine lv_iconst (v := (0 : Int32)) S.1 S.2.1 dL_law_390 (by decide) ?_
      exact absurd (congrArg Prod.fst (Option.some.inj h)) (show ¬ ((0 : Int32) = 1) by decide)
    · replace h := (if_pos c_62).symm.trans h
      refine lv_aload_n S.1 S.2.1 dL_law_366 rfl (lv_at hl 1 rfl) ?_
      refine lv_iload S.1 S.2.1 dL_law_367 (lv_at hl 3 rfl) ?_
      refine lv_iconst (v := (5 : Int32)) S.1 S.2.1 dL_law_369 (by decide) ?_
      refine lv_iadd S.1 S.2.1 dL_law_370 ?_
      refine lv_iload S.1 S.2.1 dL_law_371 (lv_at hl 5 rfl) ?_
      obtain ⟨o_63, τ_63, e_63, h⟩ := b2s h
      obtain ⟨r_63, u_63, h⟩ := bnd h
      rw [oRt_eq u_63] at e_63
      replace hB := lwC hB
      refine gCallR (v0 := some (.int r_63)) (ci := 10) S hK lKSc hKS hA (gMetX.weak (kX10_let hl9 e_63) (fun _ _ q => q.1.1)) (cwL_118 S.2.2.2.2 (rm := rmX10_let) rfl rfl ⟨(Nat.le_of_ble_eq_true rfl), (Nat.le_of_ble_eq_true rfl)⟩) hB 0 rfl rfl rfl hl.1 rfl (lv_room (Nat.le_of_ble_eq_true rfl)) dL_law_373 ⟨by dsimp only [room_1]; omega, by dsimp only [room_1]; omega⟩ (fun H locs hB => ?_)
      replace hB : gB D vwCl _ _ (LwW cI cJ cQ ad ra ar (rC σ1 τ_63)) [] _ _ := lwC2 hB
      refine lv_aload_n S.1 S.2.1 dL_law_376 rfl (lv_at hl 1 rfl) ?_
      refine lv_iload S.1 S.2.1 dL_law_377 (lv_at hl 3 rfl) ?_
      refine lv_bipush (v := (6 : Int32)) S.1 S.2.1 dL_law_379 (by decide) ?_
      refine lv_iadd S.1 S.2.1 dL_law_381 ?_
      refine lv_iload S.1 S.2.1 dL_law_382 (lv_at hl 5 rfl) ?_
      obtain ⟨o_64, τ_64, e_64, h⟩ := b2s h
      obtain ⟨r_64, u_64, h⟩ := bnd h
      rw [oRt_eq u_64] at e_64
      replace hB := lwC hB
      refine gCallR (v0 := some (.int r_64)) (ci := 10) S hK lKSc hKS hA (gMetX.weak (kX10_let hl9 e_64) (fun _ _ q => q.1.1)) (cwL_118 S.2.2.2.2 (rm := rmX10_let) rfl rfl ⟨(Nat.le_of_ble_eq_true rfl), (Nat.le_of_ble_eq_true rfl)⟩) hB 0 rfl rfl rfl hl.1 rfl (lv_room (Nat.le_of_ble_eq_true rfl)) dL_law_384 ⟨by dsimp only [room_1]; omega, by dsimp only [room_1]; omega⟩ (fun H locs hB => ?_)
      replace hB : gB D vwCl _ _ (LwW cI cJ cQ ad ra ar (rC (rC σ1 τ_63) τ_64)) [] _ _ := lwC2 hB
      refine lv_icmp_ne (tgt := 392) S.1 S.2.1 dL_law_387 (by decide) (fun c_65 => ?_) (fun c_65 => ?_)
      · replace h := (if_neg c_65).symm.trans h
        refine lv_aload_n S.1 S.2.1 dL_law_392 rfl (lv_at hl 1 rfl) ?_
        refine lv_iconst (v := (0 : Int32)) S.1 S.2.1 dL_law_393 (by decide) ?_
        refine lv_iload S.1 S.2.1 dL_law_394 (lv_at hl 5 rfl) ?_
        obtain ⟨o_66, τ_66, e_66, h⟩ := b2s h
        obtain ⟨r_66, u_66, h⟩ := bnd h
        rw [oRt_eq u_66] at e_66
        replace hB := lwC hB
        refine gCallR (v0 := some (.int r_66)) (ci := 10) S hK lKSc hKS hA (gMetX.weak (kX10_watch hl9 e_66) (fun _ _ q => q.1.1)) (cwL_122 S.2.2.2.2 (rm := rmX10_watch) rfl rfl ⟨(Nat.le_of_ble_eq_true rfl), (Nat.le_of_ble_eq_true rfl)⟩) hB 0 rfl rfl rfl hl.1 rfl (lv_room (Nat.le_of_ble_eq_true rfl)) dL_law_396 ⟨by dsimp only [room_1]; omega, by dsimp only [room_1]; omega⟩ (fun H locs hB => ?_)
        replace hB : gB D vwCl _ _ (LwW cI cJ cQ ad ra ar (rC (rC (rC σ1 τ_63) τ_64) τ_66)) [] _ _ := lwC2 hB
        refine lv_iload S.1 S.2.1 dL_law_399 (lv_at hl 7 rfl) ?_
        refine lv_icmp_ne (tgt := 441) S.1 S.2.1 dL_law_401 (by decide) (fun c_67 => ?_) (fun c_67 => ?_)
        · replace h := (if_neg c_67).symm.trans h
          refine lv_iconst (v := (0 : Int32)) S.1 S.2.1 dL_law_441 (by decide) ?_
          exact absurd (congrArg Prod.fst (Option.some.inj h)) (show ¬ ((0 : Int32) = 1) by decide)
        · replace h := (if_pos c_67).symm.trans h
          refine lv_aload_n S.1 S.2.1 dL_law_404 rfl (lv_at hl 1 rfl) ?_
          refine lv_iconst (v := (1 : Int32)) S.1 S.2.1 dL_law_405 (by decide) ?_
          refine lv_iload S.1 S.2.1 dL_law_406 (lv_at hl 5 rfl) ?_
          obtain ⟨o_68, τ_68, e_68, h⟩ := b2s h
          obtain ⟨r_68, u_68, h⟩ := bnd h
          rw [oRt_eq u_68] at e_68
          replace hB := lwC hB
          refine gCallR (v0 := some (.int r_68)) (ci := 10) S hK lKSc hKS hA (gMetX.weak (kX10_watch hl9 e_68) (fun _ _ q => q.1.1)) (cwL_122 S.2.2.2.2 (rm := rmX10_watch) rfl rfl ⟨(Nat.le_of_ble_eq_true rfl), (Nat.le_of_ble_eq_true rfl)⟩) hB 0 rfl rfl rfl hl.1 rfl (lv_room (Nat.le_of_ble_eq_true rfl)) dL_law_408 ⟨by dsimp only [room_1]; omega, by dsimp only [room_1]; omega⟩ (fun H locs hB => ?_)
          replace hB : gB D vwCl _ _ (LwW cI cJ cQ ad ra ar (rC (rC (rC (rC σ1 τ_63) τ_64) τ_66) τ_68)) [] _ _ := lwC2 hB
          refine lv_iload S.1 S.2.1 dL_law_411 (lv_at hl 7 rfl) ?_
          refine lv_icmp_ne (tgt := 441) S.1 S.2.1 dL_law_413 (by decide) (fun c_69 => ?_) (fun c_69 => ?_)
          · replace h := (if_neg c_69).symm.trans h
            refine lv_iconst (v := (0 : Int32)) S.1 S.2.1 dL_law_441 (by decide) ?_
            exact absurd (congrArg Prod.fst (Option.some.inj h)) (show ¬ ((0 : Int32) = 1) by decide)
          · replace h := (if_pos c_69).symm.trans h
            refine lv_iload S.1 S.2.1 dL_law_416 (lv_at hl 6 rfl) ?_
            refine lv_iload S.1 S.2.1 dL_law_418 (lv_at hl 7 rfl) ?_
            refine lv_if_eq (tgt := 427) S.1 S.2.1 dL_law_420 (by decide) (fun c_70 => ?_) (fun c_70 => ?_)
            · replace h := (if_pos c_70).symm.trans h
              refine lv_iconst (v := (2 : Int32)) S.1 S.2.1 dL_law_427 (by decide) ?_
              exact P428 k127 _ _ hb127 hk127 _ _ _ _ _ _ _ _ _ _ _ (by omega) (by omega) h hB (lv_sub hl [0, 1, 2, 3, 4, 5] rfl)
            · replace h := (if_neg c_70).symm.trans h
              refine lv_iconst (v := (0 : Int32)) S.1 S.2.1 dL_law_423 (by decide) ?_
              refine lv_goto (tgt := 428) S.1 S.2.1 dL_law_424 (by decide) ?_
              exact P428 k127 _ _ hb127 hk127 _ _ _ _ _ _ _ _ _ _ _ (by omega) (by omega) h hB (lv_sub hl [0, 1, 2, 3, 4, 5] rfl)
      · replace h := (if_pos c_65).symm.trans h
        refine lv_iconst (v := (0 : Int32)) S.1 S.2.1 dL_law_390 (by decide) ?_
        exact absurd (congrArg Prod.fst (Option.some.inj h)) (show ¬ ((0 : Int32) = 1) by decide)
  have P358 : ∀ (k127 : Int32 → Int32 → Int32 → LwS → Option (Int32 × LwS)) (kb127 ks127 : Nat) (hb127 : kb127 ≤ 600086 ∧ ks127 ≤ 7301442) (hk127 : ∀ (x4 : Int32) (x6 : Int32) (x7 : Int32) (σ1 : LwS) (H : Heap) (locs : List Loc) (ls : Array Slot) (cl sl : Nat), cl ≤ kb127 → sl ≤ ks127 → k127 x4 x6 x7 σ1 = some (1, σ') → gB D vwCl A s.heap (LwW cI cJ cQ ad ra ar σ1) [] H locs → lv_has ls 15 [(0, .ref b), (1, .ref (ad 0)), (2, .ref (ar 0)), (4, .int x4), (6, .int x6), (7, .int x7)] → W p l e room_1 s m args below meth c H locs cl sl Q (F0 m 127 ls [])), ∀ (x4 : Int32) (x6 : Int32) (x7 : Int32) (x9 : Int32) (x13 : Int32) (y0 : Int32) (σ1 : LwS) (H : Heap) (locs : List Loc) (ls : Array Slot) (cl sl : Nat), cl + 5 ≤ kb127 → sl + 30 ≤ ks127 → FL_law_358 L N xs k127 x4 x6 x7 x9 x13 y0 σ1 = some (1, σ') → gB D vwCl A s.heap (LwW cI cJ cQ ad ra ar σ1) [] H locs → lv_has ls 15 [(0, .ref b), (1, .ref (ad 0)), (2, .ref (ar 0)), (4, .int x4), (6, .int x6), (7, .int x7), (9, .int x9), (13, .int x13)] → W p l e room_1 s m args below meth c H locs cl sl Q (F0 m 358 ls [.int y0]) := by
    intro k127 kb127 ks127 hb127 hk127 x4 x6 x7 x9 x13 y0 σ1 H locs ls cl sl g1 g2 h hB hl
    rw [FL_law_358] at h
    refine lv_iconst (v := (1 : Int32)) S.1 S.2.1 dL_law_358 (by decide) ?_
    refine lv_goto (tgt := 363) S.1 S.2.1 dL_law_359 (by decide) ?_
    exact P363 k127 _ _ hb127 hk127 _ _ _ _ _ _ _ _ _ _ _ _ _ (by omega) (by omega) h hB hl
  have P362 : ∀ (k127 : Int32 → Int32 → Int32 → LwS → Option (Int32 × LwS)) (kb127 ks127 : Nat) (hb127 : kb127 ≤ 600086 ∧ ks127 ≤ 7301442) (hk127 : ∀ (x4 : Int32) (x6 : Int32) (x7 : Int32) (σ1 : LwS) (H : Heap) (locs : List Loc) (ls : Array Slot) (cl sl : Nat), cl ≤ kb127 → sl ≤ ks127 → k127 x4 x6 x7 σ1 = some (1, σ') → gB D vwCl A s.heap (LwW cI cJ cQ ad ra ar σ1) [] H locs → lv_has ls 15 [(0, .ref b), (1, .ref (ad 0)), (2, .ref (ar 0)), (4, .int x4), (6, .int x6), (7, .int x7)] → W p l e room_1 s m args below meth c H locs cl sl Q (F0 m 127 ls [])), ∀ (x4 : Int32) (x6 : Int32) (x7 : Int32) (x9 : Int32) (x13 : Int32) (y0 : Int32) (σ1 : LwS) (H : Heap) (locs : List Loc) (ls : Array Slot) (cl sl : Nat), cl + 5 ≤ kb127 → sl + 30 ≤ ks127 → FL_law_362 L N xs k127 x4 x6 x7 x9 x13 y0 σ1 = some (1, σ') → gB D vwCl A s.heap (LwW cI cJ cQ ad ra ar σ1) [] H locs → lv_has ls 15 [(0, .ref b), (1, .ref (ad 0)), (2, .ref (ar 0)), (4, .int x4), (6, .int x6), (7, .int x7), (9, .int x9), (13, .int x13)] → W p l e room_1 s m args below meth c H locs cl sl Q (F0 m 362 ls [.int y0]) := by
    intro k127 kb127 ks127 hb127 hk127 x4 x6 x7 x9 x13 y0 σ1 H locs ls cl sl g1 g2 h hB hl
    rw [FL_law_362] at h
    refine lv_iconst (v := (0 : Int32)) S.1 S.2.1 dL_law_362 (by decide) ?_
    exact P363 k127 _ _ hb127 hk127 _ _ _ _ _ _ _ _ _ _ _ _ _ (by omega) (by omega) h hB hl
  have P321 : ∀ (k127 : Int32 → Int32 → Int32 → LwS → Option (Int32 × LwS)) (kb127 ks127 : Nat) (hb127 : kb127 ≤ 600086 ∧ ks127 ≤ 7301442) (hk127 : ∀ (x4 : Int32) (x6 : Int32) (x7 : Int32) (σ1 : LwS) (H : Heap) (locs : List Loc) (ls : Array Slot) (cl sl : Nat), cl ≤ kb127 → sl ≤ ks127 → k127 x4 x6 x7 σ1 = some (1, σ') → gB D vwCl A s.heap (LwW cI cJ cQ ad ra ar σ1) [] H locs → lv_has ls 15 [(0, .ref b), (1, .ref (ad 0)), (2, .ref (ar 0)), (4, .int x4), (6, .int x6), (7, .int x7)] → W p l e room_1 s m args below meth c H locs cl sl Q (F0 m 127 ls [])), ∀ (x4 : Int32) (x6 : Int32) (x7 : Int32) (x9 : Int32) (x10 : Int32) (x11 : Int32) (x13 : Int32) (x14 : Int32) (y0 : Int32) (y1 : Int32) (σ1 : LwS) (H : Heap) (locs : List Loc) (ls : Array Slot) (cl sl : Nat), cl + 6 ≤ kb127 → sl + 36 ≤ ks127 → FL_law_321 L N xs k127 x4 x6 x7 x9 x10 x11 x13 x14 y0 y1 σ1 = some (1, σ') → gB D vwCl A s.heap (LwW cI cJ cQ ad ra ar σ1) [] H locs → lv_has ls 15 [(0, .ref b), (1, .ref (ad 0)), (2, .ref (ar 0)), (4, .int x4), (6, .int x6), (7, .int x7), (9, .int x9), (10, .int x10), (11, .int x11), (13, .int x13), (14, .int x14)] → W p l e room_1 s m args below meth c H locs cl sl Q (F0 m 321 ls [.int y1, .int y0]) := by
    intro k127 kb127 ks127 hb127 hk127 x4 x6 x7 x9 x10 x11 x13 x14 y0 y1 σ1 H locs ls cl sl g1 g2 h hB hl
    rw [FL_law_321] at h
    refine lv_icmp_eq (tgt := 326) S.1 S.2.1 dL_law_321 (by decide) (fun c_60 => ?_) (fun c_60 => ?_)
    · replace h := (if_pos c_60).symm.trans h
      refine lv_iload S.1 S.2.1 dL_law_326 (lv_at hl 10 rfl) ?_
      refine lv_iload S.1 S.2.1 dL_law_328 (lv_at hl 8 rfl) ?_
      refine lv_if_ne (tgt := 358) S.1 S.2.1 dL_law_330 (by decide) (fun c_61 => ?_) (fun c_61 => ?_)
      · replace h := (if_neg c_61).symm.trans h
        exact P358 k127 _ _ hb127 hk127 _ _ _ _ _ _ _ _ _ _ _ _ (by omega) (by omega) h hB (lv_sub hl [0, 1, 2, 3, 4, 5, 6, 9] rfl)
      · replace h := (if_pos c_61).symm.trans h
        refine lv_iload S.1 S.2.1 dL_law_333 (lv_at hl 7 rfl) ?_
        refine lv_if_eq (tgt := 362) S.1 S.2.1 dL_law_335 (by decide) (fun c_74 => ?_) (fun c_74 => ?_)
        · replace h := (if_pos c_74).symm.trans h
          exact P362 k127 _ _ hb127 hk127 _ _ _ _ _ _ _ _ _ _ _ _ (by omega) (by omega) h hB (lv_sub hl [0, 1, 2, 3, 4, 5, 6, 9] rfl)
        · replace h := (if_neg c_74).symm.trans h
          refine lv_iload S.1 S.2.1 dL_law_338 (lv_at hl 5 rfl) ?_
          refine lv_if_le (tgt := 362) S.1 S.2.1 dL_law_340 (by decide) (fun c_75 => ?_) (fun c_75 => ?_)
          · replace h := (if_pos c_75).symm.trans h
            exact P362 k127 _ _ hb127 hk127 _ _ _ _ _ _ _ _ _ _ _ _ (by omega) (by omega) h hB (lv_sub hl [0, 1, 2, 3, 4, 5, 6, 9] rfl)
          · replace h := (if_neg c_75).symm.trans h
            refine lv_aload_n S.1 S.2.1 dL_law_343 rfl (lv_at hl 1 rfl) ?_
            refine lv_iload S.1 S.2.1 dL_law_344 (lv_at hl 3 rfl) ?_
            refine lv_iconst (v := (4 : Int32)) S.1 S.2.1 dL_law_346 (by decide) ?_
            refine lv_iadd S.1 S.2.1 dL_law_347 ?_
            refine lv_iload S.1 S.2.1 dL_law_348 (lv_at hl 5 rfl) ?_
            refine lv_iconst (v := (1 : Int32)) S.1 S.2.1 dL_law_350 (by decide) ?_
            refine lv_isub S.1 S.2.1 dL_law_351 ?_
            obtain ⟨o_76, τ_76, e_76, h⟩ := b2s h
            obtain ⟨r_76, u_76, h⟩ := bnd h
            rw [oRt_eq u_76] at e_76
            replace hB := lwC hB
            refine gCallR (v0 := some (.int r_76)) (ci := 10) S hK lKSc hKS hA (gMetX.weak (kX10_let hl9 e_76) (fun _ _ q => q.1.1)) (cwL_118 S.2.2.2.2 (rm := rmX10_let) rfl rfl ⟨(Nat.le_of_ble_eq_true rfl), (Nat.le_of_ble_eq_true rfl)⟩) hB 0 rfl rfl rfl hl.1 rfl (lv_room (Nat.le_of_ble_eq_true rfl)) dL_law_352 ⟨by dsimp only [room_1]; omega, by dsimp only [room_1]; omega⟩ (fun H locs hB => ?_)
            replace hB : gB D vwCl _ _ (LwW cI cJ cQ ad ra ar (rC σ1 τ_76)) [] _ _ := lwC2 hB
            refine lv_if_eq (tgt := 362) S.1 S.2.1 dL_law_355 (by decide) (fun c_77 => ?_) (fun c_77 => ?_)
            · replace h := (if_pos c_77).symm.trans h
              exact P362 k127 _ _ hb127 hk127 _ _ _ _ _ _ _ _ _ _ _ _ (by omega) (by omega) h hB (lv_sub hl [0, 1, 2, 3, 4, 5, 6, 9] rfl)
            · replace h := (if_neg c_77).symm.trans h
              exact P358 k127 _ _ hb127 hk127 _ _ _ _ _ _ _ _ _ _ _ _ (by omega) (by omega) h hB (lv_sub hl [0, 1, 2, 3, 4, 5, 6, 9] rfl)
    · replace h := (if_neg c_60).symm.trans h
      refine lv_iconst (v := (0 : Int32)) S.1 S.2.1 dL_law_324 (by decide) ?_
      exact absurd (congrArg Prod.fst (Option.some.inj h)) (show ¬ ((0 : Int32) = 1) by decide)
  have P320 : ∀ (k127 : Int32 → Int32 → Int32 → LwS → Option (Int32 × LwS)) (kb127 ks127 : Nat) (hb127 : kb127 ≤ 600086 ∧ ks127 ≤ 7301442) (hk127 : ∀ (x4 : Int32) (x6 : Int32) (x7 : Int32) (σ1 : LwS) (H : Heap) (locs : List Loc) (ls : Array Slot) (cl sl : Nat), cl ≤ kb127 → sl ≤ ks127 → k127 x4 x6 x7 σ1 = some (1, σ') → gB D vwCl A s.heap (LwW cI cJ cQ ad ra ar σ1) [] H locs → lv_has ls 15 [(0, .ref b), (1, .ref (ad 0)), (2, .ref (ar 0)), (4, .int x4), (6, .int x6), (7, .int x7)] → W p l e room_1 s m args below meth c H locs cl sl Q (F0 m 127 ls [])), ∀ (x4 : Int32) (x6 : Int32) (x7 : Int32) (x9 : Int32) (x10 : Int32) (x11 : Int32) (x13 : Int32) (x14 : Int32) (y0 : Int32) (σ1 : LwS) (H : Heap) (locs : List Loc) (ls : Array Slot) (cl sl : Nat), cl + 6 ≤ kb127 → sl + 36 ≤ ks127 → FL_law_320 L N xs k127 x4 x6 x7 x9 x10 x11 x13 x14 y0 σ1 = some (1, σ') → gB D vwCl A s.heap (LwW cI cJ cQ ad ra ar σ1) [] H locs → lv_has ls 15 [(0, .ref b), (1, .ref (ad 0)), (2, .ref (ar 0)), (4, .int x4), (6, .int x6), (7, .int x7), (9, .int x9), (10, .int x10), (11, .int x11), (13, .int x13), (14, .int x14)] → W p l e room_1 s m args below meth c H locs cl sl Q (F0 m 320 ls [.int y0]) := by
    intro k127 kb127 ks127 hb127 hk127 x4 x6 x7 x9 x10 x11 x13 x14 y0 σ1 H locs ls cl sl g1 g2 h hB hl
    rw [FL_law_320] at h
    refine lv_iconst (v := (0 : Int32)) S.1 S.2.1 dL_law_320 (by decide) ?_
    exact P321 k127 _ _ hb127 hk127 _ _ _ _ _ _ _ _ _ _ _ _ _ _ _ _ (by omega) (by omega) h hB hl
  have P316 : ∀ (k127 : Int32 → Int32 → Int32 → LwS → Option (Int32 × LwS)) (kb127 ks127 : Nat) (hb127 : kb127 ≤ 600086 ∧ ks127 ≤ 7301442) (hk127 : ∀ (x4 : Int32) (x6 : Int32) (x7 : Int32) (σ1 : LwS) (H : Heap) (locs : List Loc) (ls : Array Slot) (cl sl : Nat), cl ≤ kb127 → sl ≤ ks127 → k127 x4 x6 x7 σ1 = some (1, σ') → gB D vwCl A s.heap (LwW cI cJ cQ ad ra ar σ1) [] H locs → lv_has ls 15 [(0, .ref b), (1, .ref (ad 0)), (2, .ref (ar 0)), (4, .int x4), (6, .int x6), (7, .int x7)] → W p l e room_1 s m args below meth c H locs cl sl Q (F0 m 127 ls [])), ∀ (x4 : Int32) (x6 : Int32) (x7 : Int32) (x9 : Int32) (x10 : Int32) (x11 : Int32) (x13 : Int32) (x14 : Int32) (y0 : Int32) (σ1 : LwS) (H : Heap) (locs : List Loc) (ls : Array Slot) (cl sl : Nat), cl + 6 ≤ kb127 → sl + 36 ≤ ks127 → FL_law_316 L N xs k127 x4 x6 x7 x9 x10 x11 x13 x14 y0 σ1 = some (1, σ') → gB D vwCl A s.heap (LwW cI cJ cQ ad ra ar σ1) [] H locs → lv_has ls 15 [(0, .ref b), (1, .ref (ad 0)), (2, .ref (ar 0)), (4, .int x4), (6, .int x6), (7, .int x7), (9, .int x9), (10, .int x10), (11, .int x11), (13, .int x13), (14, .int x14)] → W p l e room_1 s m args below meth c H locs cl sl Q (F0 m 316 ls [.int y0]) := by
    intro k127 kb127 ks127 hb127 hk127 x4 x6 x7 x9 x10 x11 x13 x14 y0 σ1 H locs ls cl sl g1 g2 h hB hl
    rw [FL_law_316] at h
    refine lv_iconst (v := (1 : Int32)) S.1 S.2.1 dL_law_316 (by decide) ?_
    refine lv_goto (tgt := 321) S.1 S.2.1 dL_law_317 (by decide) ?_
    exact P321 k127 _ _ hb127 hk127 _ _ _ _ _ _ _ _ _ _ _ _ _ _ _ _ (by omega) (by omega) h hB hl
  have P286 : ∀ (k127 : Int32 → Int32 → Int32 → LwS → Option (Int32 × LwS)) (kb127 ks127 : Nat) (hb127 : kb127 ≤ 600086 ∧ ks127 ≤ 7301442) (hk127 : ∀ (x4 : Int32) (x6 : Int32) (x7 : Int32) (σ1 : LwS) (H : Heap) (locs : List Loc) (ls : Array Slot) (cl sl : Nat), cl ≤ kb127 → sl ≤ ks127 → k127 x4 x6 x7 σ1 = some (1, σ') → gB D vwCl A s.heap (LwW cI cJ cQ ad ra ar σ1) [] H locs → lv_has ls 15 [(0, .ref b), (1, .ref (ad 0)), (2, .ref (ar 0)), (4, .int x4), (6, .int x6), (7, .int x7)] → W p l e room_1 s m args below meth c H locs cl sl Q (F0 m 127 ls [])), ∀ (x4 : Int32) (x6 : Int32) (x7 : Int32) (x9 : Int32) (x10 : Int32) (x11 : Int32) (x13 : Int32) (x14 : Int32) (y0 : Int32) (y1 : Int32) (σ1 : LwS) (H : Heap) (locs : List Loc) (ls : Array Slot) (cl sl : Nat), cl + 7 ≤ kb127 → sl + 42 ≤ ks127 → FL_law_286 L N xs k127 x4 x6 x7 x9 x10 x11 x13 x14 y0 y1 σ1 = some (1, σ') → gB D vwCl A s.heap (LwW cI cJ cQ ad ra ar σ1) [] H locs → lv_has ls 15 [(0, .ref b), (1, .ref (ad 0)), (2, .ref (ar 0)), (4, .int x4), (6, .int x6), (7, .int x7), (9, .int x9), (10, .int x10), (11, .int x11), (13, .int x13), (14, .int x14)] → W p l e room_1 s m args below meth c H locs cl sl Q (F0 m 286 ls [.int y1, .int y0]) := by
    intro k127 kb127 ks127 hb127 hk127 x4 x6 x7 x9 x10 x11 x13 x14 y0 y1 σ1 H locs ls cl sl g1 g2 h hB hl
    rw [FL_law_286] at h
    refine lv_icmp_ne (tgt := 324) S.1 S.2.1 dL_law_286 (by decide) (fun c_58 => ?_) (fun c_58 => ?_)
    · replace h := (if_neg c_58).symm.trans h
      refine lv_iconst (v := (0 : Int32)) S.1 S.2.1 dL_law_324 (by decide) ?_
      exact absurd (congrArg Prod.fst (Option.some.inj h)) (show ¬ ((0 : Int32) = 1) by decide)
    · replace h := (if_pos c_58).symm.trans h
      refine lv_iload S.1 S.2.1 dL_law_289 (lv_at hl 9 rfl) ?_
      refine lv_iload S.1 S.2.1 dL_law_291 (lv_at hl 7 rfl) ?_
      refine lv_if_eq (tgt := 320) S.1 S.2.1 dL_law_293 (by decide) (fun c_59 => ?_) (fun c_59 => ?_)
      · replace h := (if_pos c_59).symm.trans h
        exact P320 k127 _ _ hb127 hk127 _ _ _ _ _ _ _ _ _ _ _ _ _ _ _ (by omega) (by omega) h hB hl
      · replace h := (if_neg c_59).symm.trans h
        refine lv_iload S.1 S.2.1 dL_law_296 (lv_at hl 5 rfl) ?_
        refine lv_if_eq (tgt := 316) S.1 S.2.1 dL_law_298 (by decide) (fun c_78 => ?_) (fun c_78 => ?_)
        · replace h := (if_pos c_78).symm.trans h
          exact P316 k127 _ _ hb127 hk127 _ _ _ _ _ _ _ _ _ _ _ _ _ _ _ (by omega) (by omega) h hB hl
        · replace h := (if_neg c_78).symm.trans h
          refine lv_aload_n S.1 S.2.1 dL_law_301 rfl (lv_at hl 1 rfl) ?_
          refine lv_iload S.1 S.2.1 dL_law_302 (lv_at hl 3 rfl) ?_
          refine lv_iconst (v := (3 : Int32)) S.1 S.2.1 dL_law_304 (by decide) ?_
          refine lv_iadd S.1 S.2.1 dL_law_305 ?_
          refine lv_iload S.1 S.2.1 dL_law_306 (lv_at hl 5 rfl) ?_
          refine lv_iconst (v := (1 : Int32)) S.1 S.2.1 dL_law_308 (by decide) ?_
          refine lv_isub S.1 S.2.1 dL_law_309 ?_
          obtain ⟨o_79, τ_79, e_79, h⟩ := b2s h
          obtain ⟨r_79, u_79, h⟩ := bnd h
          rw [oRt_eq u_79] at e_79
          replace hB := lwC hB
          refine gCallR (v0 := some (.int r_79)) (ci := 10) S hK lKSc hKS hA (gMetX.weak (kX10_let hl9 e_79) (fun _ _ q => q.1.1)) (cwL_118 S.2.2.2.2 (rm := rmX10_let) rfl rfl ⟨(Nat.le_of_ble_eq_true rfl), (Nat.le_of_ble_eq_true rfl)⟩) hB 0 rfl rfl rfl hl.1 rfl (lv_room (Nat.le_of_ble_eq_true rfl)) dL_law_310 ⟨by dsimp only [room_1]; omega, by dsimp only [room_1]; omega⟩ (fun H locs hB => ?_)
          replace hB : gB D vwCl _ _ (LwW cI cJ cQ ad ra ar (rC σ1 τ_79)) [] _ _ := lwC2 hB
          refine lv_if_eq (tgt := 320) S.1 S.2.1 dL_law_313 (by decide) (fun c_80 => ?_) (fun c_80 => ?_)
          · replace h := (if_pos c_80).symm.trans h
            exact P320 k127 _ _ hb127 hk127 _ _ _ _ _ _ _ _ _ _ _ _ _ _ _ (by omega) (by omega) h hB hl
          · replace h := (if_neg c_80).symm.trans h
            exact P316 k127 _ _ hb127 hk127 _ _ _ _ _ _ _ _ _ _ _ _ _ _ _ (by omega) (by omega) h hB hl
  have P281 : ∀ (k127 : Int32 → Int32 → Int32 → LwS → Option (Int32 × LwS)) (kb127 ks127 : Nat) (hb127 : kb127 ≤ 600086 ∧ ks127 ≤ 7301442) (hk127 : ∀ (x4 : Int32) (x6 : Int32) (x7 : Int32) (σ1 : LwS) (H : Heap) (locs : List Loc) (ls : Array Slot) (cl sl : Nat), cl ≤ kb127 → sl ≤ ks127 → k127 x4 x6 x7 σ1 = some (1, σ') → gB D vwCl A s.heap (LwW cI cJ cQ ad ra ar σ1) [] H locs → lv_has ls 15 [(0, .ref b), (1, .ref (ad 0)), (2, .ref (ar 0)), (4, .int x4), (6, .int x6), (7, .int x7)] → W p l e room_1 s m args below meth c H locs cl sl Q (F0 m 127 ls [])), ∀ (x4 : Int32) (x6 : Int32) (x7 : Int32) (x9 : Int32) (x10 : Int32) (x11 : Int32) (x13 : Int32) (x14 : Int32) (y0 : Int32) (σ1 : LwS) (H : Heap) (locs : List Loc) (ls : Array Slot) (cl sl : Nat), cl + 7 ≤ kb127 → sl + 42 ≤ ks127 → FL_law_281 L N xs k127 x4 x6 x7 x9 x10 x11 x13 x14 y0 σ1 = some (1, σ') → gB D vwCl A s.heap (LwW cI cJ cQ ad ra ar σ1) [] H locs → lv_has ls 15 [(0, .ref b), (1, .ref (ad 0)), (2, .ref (ar 0)), (4, .int x4), (6, .int x6), (7, .int x7), (9, .int x9), (10, .int x10), (11, .int x11), (13, .int x13), (14, .int x14)] → W p l e room_1 s m args below meth c H locs cl sl Q (F0 m 281 ls [.int y0]) := by
    intro k127 kb127 ks127 hb127 hk127 x4 x6 x7 x9 x10 x11 x13 x14 y0 σ1 H locs ls cl sl g1 g2 h hB hl
    rw [FL_law_281] at h
    refine lv_iconst (v := (1 : Int32)) S.1 S.2.1 dL_law_281 (by decide) ?_
    refine lv_goto (tgt := 286) S.1 S.2.1 dL_law_282 (by decide) ?_
    exact P286 k127 _ _ hb127 hk127 _ _ _ _ _ _ _ _ _ _ _ _ _ _ _ _ (by omega) (by omega) h hB hl
  have P285 : ∀ (k127 : Int32 → Int32 → Int32 → LwS → Option (Int32 × LwS)) (kb127 ks127 : Nat) (hb127 : kb127 ≤ 600086 ∧ ks127 ≤ 7301442) (hk127 : ∀ (x4 : Int32) (x6 : Int32) (x7 : Int32) (σ1 : LwS) (H : Heap) (locs : List Loc) (ls : Array Slot) (cl sl : Nat), cl ≤ kb127 → sl ≤ ks127 → k127 x4 x6 x7 σ1 = some (1, σ') → gB D vwCl A s.heap (LwW cI cJ cQ ad ra ar σ1) [] H locs → lv_has ls 15 [(0, .ref b), (1, .ref (ad 0)), (2, .ref (ar 0)), (4, .int x4), (6, .int x6), (7, .int x7)] → W p l e room_1 s m args below meth c H locs cl sl Q (F0 m 127 ls [])), ∀ (x4 : Int32) (x6 : Int32) (x7 : Int32) (x9 : Int32) (x10 : Int32) (x11 : Int32) (x13 : Int32) (x14 : Int32) (y0 : Int32) (σ1 : LwS) (H : Heap) (locs : List Loc) (ls : Array Slot) (cl sl : Nat), cl + 7 ≤ kb127 → sl + 42 ≤ ks127 → FL_law_285 L N xs k127 x4 x6 x7 x9 x10 x11 x13 x14 y0 σ1 = some (1, σ') → gB D vwCl A s.heap (LwW cI cJ cQ ad ra ar σ1) [] H locs → lv_has ls 15 [(0, .ref b), (1, .ref (ad 0)), (2, .ref (ar 0)), (4, .int x4), (6, .int x6), (7, .int x7), (9, .int x9), (10, .int x10), (11, .int x11), (13, .int x13), (14, .int x14)] → W p l e room_1 s m args below meth c H locs cl sl Q (F0 m 285 ls [.int y0]) := by
    intro k127 kb127 ks127 hb127 hk127 x4 x6 x7 x9 x10 x11 x13 x14 y0 σ1 H locs ls cl sl g1 g2 h hB hl
    rw [FL_law_285] at h
    refine lv_iconst (v := (0 : Int32)) S.1 S.2.1 dL_law_285 (by decide) ?_
    exact P286 k127 _ _ hb127 hk127 _ _ _ _ _ _ _ _ _ _ _ _ _ _ _ _ (by omega) (by omega) h hB hl
  have P127 : ∀  (n : Nat), ∀ (x4 : Int32) (x6 : Int32) (x7 : Int32) (σ1 : LwS) (H : Heap) (locs : List Loc) (ls : Array Slot) (cl sl : Nat), cl + n * 16 + 229 ≤ 600086 → sl + n * 96 + 1284 ≤ 7301442 → FL_law_127 L N xs n x4 x6 x7 σ1 = some (1, σ') → gB D vwCl A s.heap (LwW cI cJ cQ ad ra ar σ1) [] H locs → lv_has ls 15 [(0, .ref b), (1, .ref (ad 0)), (2, .ref (ar 0)), (4, .int x4), (6, .int x6), (7, .int x7)] → W p l e room_1 s m args below meth c H locs cl sl Q (F0 m 127 ls []) := by
    intro n
    induction n with
    | zero => intro x4 x6 x7 σ1 H locs ls cl sl g1 g2 h; simp only [FL_law_127] at h; cases h
    | succ n ih =>
      intro x4 x6 x7 σ1 H locs ls cl sl g1 g2 h hB hl
      rw [FL_law_127] at h
      obtain ⟨kb127, hkb127⟩ : ∃ z, z = (600086 - n * 16 - 229) := ⟨_, rfl⟩
      obtain ⟨ks127, hks127⟩ : ∃ z, z = (7301442 - n * 96 - 1284) := ⟨_, rfl⟩
      have hb127 : kb127 ≤ 600086 ∧ ks127 ≤ 7301442 := ⟨by omega, by omega⟩
      have ihc : ∀ (x4 : Int32) (x6 : Int32) (x7 : Int32) (σ1 : LwS) (H : Heap) (locs : List Loc) (ls : Array Slot) (cl sl : Nat), cl ≤ kb127 → sl ≤ ks127 → (FL_law_127 L N xs n) x4 x6 x7 σ1 = some (1, σ') → gB D vwCl A s.heap (LwW cI cJ cQ ad ra ar σ1) [] H locs → lv_has ls 15 [(0, .ref b), (1, .ref (ad 0)), (2, .ref (ar 0)), (4, .int x4), (6, .int x6), (7, .int x7)] → W p l e room_1 s m args below meth c H locs cl sl Q (F0 m 127 ls []) := fun x4 x6 x7 σ1 H locs ls cl sl q1 q2 h hB hl => ih x4 x6 x7 σ1 H locs ls cl sl (by omega) (by omega) h hB hl
      refine lv_iload S.1 S.2.1 dL_law_127 (lv_at hl 5 rfl) ?_
      refine lv_iload S.1 S.2.1 dL_law_129 (lv_at hl 4 rfl) ?_
      refine lv_icmp_ge (tgt := 449) S.1 S.2.1 dL_law_131 (by decide) (fun c_14 => ?_) (fun c_14 => ?_)
      · replace h := (if_pos c_14).symm.trans h
        refine lv_aload_n S.1 S.2.1 dL_law_449 rfl (lv_at hl 1 rfl) ?_
        obtain ⟨r_15, τ_15, e_15, h⟩ := b2s h
        replace hB := lwC hB
        refine gCallV (v := some (.int r_15)) (ci := 10) S hK lKSc hKS hA (gMet.weak (kX10_keep e_15) (fun _ _ q => q.1.1.1)) (cwL_128 S.2.2.2.2 (rm := rmX10_keep) rfl rfl ⟨(Nat.le_of_ble_eq_true rfl), (Nat.le_of_ble_eq_true rfl)⟩) hB 0 rfl rfl rfl hl.1 rfl (lv_room (Nat.le_of_ble_eq_true rfl)) dL_law_450 ⟨by dsimp only [room_1]; omega, by dsimp only [room_1]; omega⟩ (fun H locs hB => ?_)
        replace hB : gB D vwCl _ _ (LwW cI cJ cQ ad ra ar (rC σ1 τ_15)) [] _ _ := lwC2 hB
        refine lv_pop S.1 S.2.1 dL_law_453 rfl ?_
        refine lv_aload_n S.1 S.2.1 dL_law_454 rfl (lv_at hl 1 rfl) ?_
        obtain ⟨r_16, τ_16, e_16, h⟩ := b2s h
        replace hB := lwC hB
        refine gCallV (v := some (.long r_16)) (ci := 10) S hK lKSc hKS hA (gMet.weak (kX10_digest e_16) (fun _ _ q => q.1.1.1)) (cwL_131 S.2.2.2.2 (rm := rmX10_digest) rfl rfl ⟨(Nat.le_of_ble_eq_true rfl), (Nat.le_of_ble_eq_true rfl)⟩) hB 0 rfl rfl rfl hl.1 rfl (lv_room (Nat.le_of_ble_eq_true rfl)) dL_law_455 ⟨by dsimp only [room_1]; omega, by dsimp only [room_1]; omega⟩ (fun H locs hB => ?_)
        replace hB : gB D vwCl _ _ (LwW cI cJ cQ ad ra ar (rC (rC σ1 τ_15) τ_16)) [] _ _ := lwC2 hB
        refine lv_lstore (lv' := [(7, .long r_16), (0, .ref b), (1, .ref (ad 0)), (2, .ref (ar 0)), (4, .int x4), (6, .int x6)]) S.1 S.2.1 dL_law_458 hl (by decide) rfl (fun ls hl => ?_)
        refine lv_aload_n S.1 S.2.1 dL_law_460 rfl (lv_at hl 1 rfl) ?_
        refine lv_bipush (v := (14 : Int32)) S.1 S.2.1 dL_law_461 (by decide) ?_
        obtain ⟨r_17, e_17, h⟩ := bnd h
        refine gCallS (v := some (.int r_17)) S hK lKSc hKS hA (kL_cell e_17) (cwL_71 S.2.2.2.2 (rm := rmL_cell) rfl rfl ⟨(Nat.le_of_ble_eq_true rfl), (Nat.le_of_ble_eq_true rfl)⟩) hB rfl hl.1 rfl (lv_room (Nat.le_of_ble_eq_true rfl)) dL_law_463 ⟨by dsimp only [room_1]; omega, by dsimp only [room_1]; omega⟩ (fun H locs hB => ?_)
        refine lv_iload S.1 S.2.1 dL_law_466 (lv_at hl 5 rfl) ?_
        obtain ⟨r_18, e_18, h⟩ := bnd h
        refine gCallS (v := some (.int r_18)) S hK lKSc hKS hA (kL_below e_18) (cwL_75 S.2.2.2.2 (rm := rmL_below) rfl rfl ⟨(Nat.le_of_ble_eq_true rfl), (Nat.le_of_ble_eq_true rfl)⟩) hB rfl hl.1 rfl (lv_room (Nat.le_of_ble_eq_true rfl)) dL_law_468 ⟨by dsimp only [room_1]; omega, by dsimp only [room_1]; omega⟩ (fun H locs hB => ?_)
        refine lv_istore (lv' := [(9, .int r_18), (7, .long r_16), (0, .ref b), (1, .ref (ad 0)), (2, .ref (ar 0)), (4, .int x4), (6, .int x6)]) S.1 S.2.1 dL_law_471 hl (by decide) rfl (fun ls hl => ?_)
        refine lv_aload_n S.1 S.2.1 dL_law_473 rfl (lv_at hl 3 rfl) ?_
        refine lv_iload S.1 S.2.1 dL_law_474 (lv_at hl 0 rfl) ?_
        obtain ⟨o_19, τ_19, e_19, h⟩ := b2s h
        obtain ⟨r_19, u_19, h⟩ := bnd h
        rw [oRt_eq u_19] at e_19
        replace hB := lwC hB
        refine gCallR (v0 := some (.int r_19)) (ci := 10) S hK lKSc hKS hA (gMetX.weak (kX10_back hl9 e_19) (fun _ _ q => q.1.1)) (cwL_135 S.2.2.2.2 (rm := rmX10_back) rfl rfl ⟨(Nat.le_of_ble_eq_true rfl), (Nat.le_of_ble_eq_true rfl)⟩) hB 0 rfl rfl rfl hl.1 rfl (lv_room (Nat.le_of_ble_eq_true rfl)) dL_law_476 ⟨by dsimp only [room_1]; omega, by dsimp only [room_1]; omega⟩ (fun H locs hB => ?_)
        replace hB : gB D vwCl _ _ (LwW cI cJ cQ ad ra ar (rC (rC (rC σ1 τ_15) τ_16) τ_19)) [] _ _ := lwC2 hB
        refine lv_pop S.1 S.2.1 dL_law_479 rfl ?_
        refine lv_aload_n S.1 S.2.1 dL_law_480 rfl (lv_at hl 3 rfl) ?_
        obtain ⟨o_20, τ_20, e_20, h⟩ := b2s h
        obtain ⟨r_20, u_20, h⟩ := bnd h
        rw [oRt_eq u_20] at e_20
        replace hB := lwC hB
        refine gCallR (v0 := some (.int r_20)) (ci := 10) S hK lKSc hKS hA (gMetX.weak (kX10_replay hl9 e_20) (fun _ _ q => q.1.1)) (cwL_138 S.2.2.2.2 (rm := rmX10_replay) rfl rfl ⟨(Nat.le_of_ble_eq_true rfl), (Nat.le_of_ble_eq_true rfl)⟩) hB 0 rfl rfl rfl hl.1 rfl (lv_room (Nat.le_of_ble_eq_true rfl)) dL_law_481 ⟨by dsimp only [room_1]; omega, by dsimp only [room_1]; omega⟩ (fun H locs hB => ?_)
        replace hB : gB D vwCl _ _ (LwW cI cJ cQ ad ra ar (rC (rC (rC (rC σ1 τ_15) τ_16) τ_19) τ_20)) [] _ _ := lwC2 hB
        refine lv_istore (lv' := [(10, .int r_20), (9, .int r_18), (7, .long r_16), (0, .ref b), (1, .ref (ad 0)), (2, .ref (ar 0)), (4, .int x4), (6, .int x6)]) S.1 S.2.1 dL_law_484 hl (by decide) rfl (fun ls hl => ?_)
        refine lv_iload S.1 S.2.1 dL_law_486 (lv_at hl 0 rfl) ?_
        refine lv_iload S.1 S.2.1 dL_law_488 (lv_at hl 7 rfl) ?_
        refine lv_aload_n S.1 S.2.1 dL_law_490 rfl (lv_at hl 4 rfl) ?_
        refine lv_iconst (v := (0 : Int32)) S.1 S.2.1 dL_law_491 (by decide) ?_
        refine lv_iconst (v := (1 : Int32)) S.1 S.2.1 dL_law_492 (by decide) ?_
        obtain ⟨o_21, τ_21, e_21, h⟩ := b2s h
        obtain ⟨r_21, u_21, h⟩ := bnd h
        rw [oRt_eq u_21] at e_21
        replace hB := lwC hB
        refine gCallR (v0 := some (.int r_21)) (ci := 10) S hK lKSc hKS hA (gMetX.weak (kX10_told hl9 e_21) (fun _ _ q => q.1.1)) (cwL_141 S.2.2.2.2 (rm := rmX10_told) rfl rfl ⟨(Nat.le_of_ble_eq_true rfl), (Nat.le_of_ble_eq_true rfl)⟩) hB 0 rfl rfl rfl hl.1 rfl (lv_room (Nat.le_of_ble_eq_true rfl)) dL_law_493 ⟨by dsimp only [room_1]; omega, by dsimp only [room_1]; omega⟩ (fun H locs hB => ?_)
        replace hB : gB D vwCl _ _ (LwW cI cJ cQ ad ra ar (rC (rC (rC (rC (rC σ1 τ_15) τ_16) τ_19) τ_20) τ_21)) [] _ _ := lwC2 hB
        refine lv_isub S.1 S.2.1 dL_law_496 ?_
        refine lv_icmp_ne (tgt := 520) S.1 S.2.1 dL_law_497 (by decide) (fun c_22 => ?_) (fun c_22 => ?_)
        · replace h := (if_neg c_22).symm.trans h
          refine lv_iconst (v := (0 : Int32)) S.1 S.2.1 dL_law_520 (by decide) ?_
          exact absurd (congrArg Prod.fst (Option.some.inj h)) (show ¬ ((0 : Int32) = 1) by decide)
        · replace h := (if_pos c_22).symm.trans h
          refine lv_aload_n S.1 S.2.1 dL_law_500 rfl (lv_at hl 4 rfl) ?_
          refine lv_iconst (v := (4 : Int32)) S.1 S.2.1 dL_law_501 (by decide) ?_
          obtain ⟨o_23, τ_23, e_23, h⟩ := b2s h
          obtain ⟨r_23, u_23, h⟩ := bnd h
          rw [oRt_eq u_23] at e_23
          replace hB := lwC hB
          refine gCallR (v0 := some (.int r_23)) (ci := 10) S hK lKSc hKS hA (gMetX.weak (kX10_count hl9 e_23) (fun _ _ q => q.1.1)) (cwL_25 S.2.2.2.2 (rm := rmX10_count) rfl rfl ⟨(Nat.le_of_ble_eq_true rfl), (Nat.le_of_ble_eq_true rfl)⟩) hB 0 rfl rfl rfl hl.1 rfl (lv_room (Nat.le_of_ble_eq_true rfl)) dL_law_502 ⟨by dsimp only [room_1]; omega, by dsimp only [room_1]; omega⟩ (fun H locs hB => ?_)
          replace hB : gB D vwCl _ _ (LwW cI cJ cQ ad ra ar (rC (rC (rC (rC (rC (rC σ1 τ_15) τ_16) τ_19) τ_20) τ_21) τ_23)) [] _ _ := lwC2 hB
          refine lv_iload S.1 S.2.1 dL_law_505 (lv_at hl 7 rfl) ?_
          refine lv_icmp_ne (tgt := 520) S.1 S.2.1 dL_law_507 (by decide) (fun c_24 => ?_) (fun c_24 => ?_)
          · replace h := (if_neg c_24).symm.trans h
            refine lv_iconst (v := (0 : Int32)) S.1 S.2.1 dL_law_520 (by decide) ?_
            exact absurd (congrArg Prod.fst (Option.some.inj h)) (show ¬ ((0 : Int32) = 1) by decide)
          · replace h := (if_pos c_24).symm.trans h
            refine lv_aload_n S.1 S.2.1 dL_law_510 rfl (lv_at hl 4 rfl) ?_
            obtain ⟨r_25, τ_25, e_25, h⟩ := b2s h
            replace hB := lwC hB
            refine gCallV (v := some (.long r_25)) (ci := 10) S hK lKSc hKS hA (gMet.weak (kX10_digest e_25) (fun _ _ q => q.1.1.1)) (cwL_131 S.2.2.2.2 (rm := rmX10_digest) rfl rfl ⟨(Nat.le_of_ble_eq_true rfl), (Nat.le_of_ble_eq_true rfl)⟩) hB 0 rfl rfl rfl hl.1 rfl (lv_room (Nat.le_of_ble_eq_true rfl)) dL_law_511 ⟨by dsimp only [room_1]; omega, by dsimp only [room_1]; omega⟩ (fun H locs hB => ?_)
            replace hB : gB D vwCl _ _ (LwW cI cJ cQ ad ra ar (rC (rC (rC (rC (rC (rC (rC σ1 τ_15) τ_16) τ_19) τ_20) τ_21) τ_23) τ_25)) [] _ _ := lwC2 hB
            refine lv_lload S.1 S.2.1 dL_law_514 (lv_at hl 2 rfl) ?_
            refine W.lcmp S.1 S.2.1 dL_law_516 ?_
            refine lv_if_eq (tgt := 522) S.1 S.2.1 dL_law_517 (by decide) (fun c_26 => ?_) (fun c_26 => ?_)
            · replace c_26 := lc_eq.mp c_26
              replace h := (if_pos c_26).symm.trans h
              refine lv_aload_n S.1 S.2.1 dL_law_522 rfl (lv_at hl 5 rfl) ?_
              refine lv_iconst (v := (0 : Int32)) S.1 S.2.1 dL_law_523 (by decide) ?_
              refine lv_iconst (v := (0 : Int32)) S.1 S.2.1 dL_law_524 (by decide) ?_
              obtain ⟨b_27, h⟩ := gd h
              refine gIast (w' := (LwW cI cJ cQ ad ra ar (rR (rC (rC (rC (rC (rC (rC (rC σ1 τ_15) τ_16) τ_19) τ_20) τ_21) τ_23) τ_25) 0 (upd (σ1.2 0) (0 : Int32).toNatClampNeg (0 : Int32))))) (f := σ1.2 0) S hK hB 0 0 rfl rfl b_27 rfl dL_law_525 (fun H locs hB => ?_)
              refine lv_aload_n S.1 S.2.1 dL_law_526 rfl (lv_at hl 5 rfl) ?_
              refine va_ldcS S.1 S.2.1 S.2.2.2.1 (hKS.1.1.1.1.1.2.1 (RL, 144, "{ is f since is g } and once [1 .. 4] is f", 96) (List.mem_of_getElem? (i := 96) rfl)) dL_law_527 ?_
              obtain ⟨_, σ_28, e_28, h⟩ := b2s h
              refine gCallS (v := none) S hK lKSc hKS hA (kL_put (by decide) e_28) (cwL_40 S.2.2.2.2 (rm := rmL_put) rfl rfl ⟨(Nat.le_of_ble_eq_true rfl), (Nat.le_of_ble_eq_true rfl)⟩) hB rfl hl.1 rfl (lv_room (Nat.le_of_ble_eq_true rfl)) dL_law_529 ⟨by dsimp only [room_1]; omega, by dsimp only [room_1]; omega⟩ (fun H locs hB => ?_)
              refine lv_aload_n S.1 S.2.1 dL_law_532 rfl (lv_at hl 4 rfl) ?_
              refine lv_aload_n S.1 S.2.1 dL_law_533 rfl (lv_at hl 5 rfl) ?_
              obtain ⟨r_29, σ_29, e_29, h⟩ := b2s h
              refine gCallS (v := some (.int r_29)) S hK lKSc hKS hA (kL_lay hl9 e_29) (cwL_104 S.2.2.2.2 (rm := rmL_lay) rfl rfl ⟨(Nat.le_of_ble_eq_true rfl), (Nat.le_of_ble_eq_true rfl)⟩) hB rfl hl.1 rfl (lv_room (Nat.le_of_ble_eq_true rfl)) dL_law_534 ⟨by dsimp only [room_1]; omega, by dsimp only [room_1]; omega⟩ (fun H locs hB => ?_)
              refine lv_if_eq (tgt := 547) S.1 S.2.1 dL_law_537 (by decide) (fun c_30 => ?_) (fun c_30 => ?_)
              · replace h := (if_pos c_30).symm.trans h
                refine lv_iconst (v := (0 : Int32)) S.1 S.2.1 dL_law_547 (by decide) ?_
                exact absurd (congrArg Prod.fst (Option.some.inj h)) (show ¬ ((0 : Int32) = 1) by decide)
              · replace h := (if_neg c_30).symm.trans h
                refine lv_aload_n S.1 S.2.1 dL_law_540 rfl (lv_at hl 4 rfl) ?_
                obtain ⟨r_31, τ_31, e_31, h⟩ := b2s h
                replace hB := lwC hB
                refine gCallV (v := some (.int r_31)) (ci := 10) S hK lKSc hKS hA (gMet.weak (kX10_ask e_31) (fun _ _ q => q.1.1.1)) (cwL_146 S.2.2.2.2 (rm := rmX10_ask) rfl rfl ⟨(Nat.le_of_ble_eq_true rfl), (Nat.le_of_ble_eq_true rfl)⟩) hB 0 rfl rfl rfl hl.1 rfl (lv_room (Nat.le_of_ble_eq_true rfl)) dL_law_541 ⟨by dsimp only [room_1]; omega, by dsimp only [room_1]; omega⟩ (fun H locs hB => ?_)
                replace hB : gB D vwCl _ _ (LwW cI cJ cQ ad ra ar (rC σ_29 τ_31)) [] _ _ := lwC2 hB
                refine lv_if_eq (tgt := 549) S.1 S.2.1 dL_law_544 (by decide) (fun c_32 => ?_) (fun c_32 => ?_)
                · replace h := (if_pos c_32).symm.trans h
                  refine lv_iconst (v := (0 : Int32)) S.1 S.2.1 dL_law_549 (by decide) ?_
                  refine lv_istore (lv' := [(11, .int (0 : Int32)), (10, .int r_20), (9, .int r_18), (7, .long r_16), (0, .ref b), (1, .ref (ad 0)), (2, .ref (ar 0)), (4, .int x4), (6, .int x6)]) S.1 S.2.1 dL_law_550 hl (by decide) rfl (fun ls hl => ?_)
                  exact P552  14 _ _ _ _ _ _ _ _ _ _ (by omega) (by omega) h hB (lv_sub hl [5, 7, 8, 1, 0] rfl)
                · replace h := (if_neg c_32).symm.trans h
                  refine lv_iconst (v := (0 : Int32)) S.1 S.2.1 dL_law_547 (by decide) ?_
                  exact absurd (congrArg Prod.fst (Option.some.inj h)) (show ¬ ((0 : Int32) = 1) by decide)
            · replace c_26 := (not_congr lc_eq).mp c_26
              replace h := (if_neg c_26).symm.trans h
              refine lv_iconst (v := (0 : Int32)) S.1 S.2.1 dL_law_520 (by decide) ?_
              exact absurd (congrArg Prod.fst (Option.some.inj h)) (show ¬ ((0 : Int32) = 1) by decide)
      · replace h := (if_neg c_14).symm.trans h
        refine lv_aload_n S.1 S.2.1 dL_law_134 rfl (lv_at hl 0 rfl) ?_
        refine lv_bipush (v := (9 : Int32)) S.1 S.2.1 dL_law_135 (by decide) ?_
        refine lv_iload S.1 S.2.1 dL_law_137 (lv_at hl 5 rfl) ?_
        refine lv_iconst (v := (5 : Int32)) S.1 S.2.1 dL_law_139 (by decide) ?_
        refine lv_irem S.1 S.2.1 dL_law_140 (by decide) ?_
        refine lv_iadd S.1 S.2.1 dL_law_141 ?_
        obtain ⟨r_45, e_45, h⟩ := bnd h
        refine gCallS (v := some (.int r_45)) S hK lKSc hKS hA (kL_cell e_45) (cwL_71 S.2.2.2.2 (rm := rmL_cell) rfl rfl ⟨(Nat.le_of_ble_eq_true rfl), (Nat.le_of_ble_eq_true rfl)⟩) hB rfl hl.1 rfl (lv_room (Nat.le_of_ble_eq_true rfl)) dL_law_142 ⟨by dsimp only [room_1]; omega, by dsimp only [room_1]; omega⟩ (fun H locs hB => ?_)
        refine lv_iload S.1 S.2.1 dL_law_145 (lv_at hl 5 rfl) ?_
        refine lv_iconst (v := (5 : Int32)) S.1 S.2.1 dL_law_147 (by decide) ?_
        refine lv_idiv S.1 S.2.1 dL_law_148 (by decide) ?_
        refine lv_iconst (v := (5 : Int32)) S.1 S.2.1 dL_law_149 (by decide) ?_
        refine lv_imul S.1 S.2.1 dL_law_150 ?_
        refine lv_ishr S.1 S.2.1 dL_law_151 ?_
        refine lv_istore (lv' := [(8, .int (r_45 >>> (((x7 / (5 : Int32)) * (5 : Int32)) &&& 31))), (0, .ref b), (1, .ref (ad 0)), (2, .ref (ar 0)), (4, .int x4), (6, .int x6), (7, .int x7)]) S.1 S.2.1 dL_law_152 hl (by decide) rfl (fun ls hl => ?_)
        refine lv_aload_n S.1 S.2.1 dL_law_154 rfl (lv_at hl 2 rfl) ?_
        refine lv_iconst (v := (0 : Int32)) S.1 S.2.1 dL_law_155 (by decide) ?_
        refine lv_iload S.1 S.2.1 dL_law_156 (lv_at hl 0 rfl) ?_
        refine lv_iconst (v := (4 : Int32)) S.1 S.2.1 dL_law_158 (by decide) ?_
        obtain ⟨r_46, e_46, h⟩ := bnd h
        refine gCallS (v := some (.int r_46)) S hK lKSc hKS hA (kL_below e_46) (cwL_75 S.2.2.2.2 (rm := rmL_below) rfl rfl ⟨(Nat.le_of_ble_eq_true rfl), (Nat.le_of_ble_eq_true rfl)⟩) hB rfl hl.1 rfl (lv_room (Nat.le_of_ble_eq_true rfl)) dL_law_159 ⟨by dsimp only [room_1]; omega, by dsimp only [room_1]; omega⟩ (fun H locs hB => ?_)
        refine lv_i2l (v := r_46.toInt64) S.1 S.2.1 dL_law_162 rfl ?_
        obtain ⟨o_47, τ_47, e_47, h⟩ := b2s h
        obtain ⟨r_47, u_47, h⟩ := bnd h
        rw [oRt_eq u_47] at e_47
        replace hB := lwC hB
        refine gCallR (v0 := some (.long r_47)) (ci := 10) S hK lKSc hKS hA (gMetX.weak (kX10_set hl9 e_47) (fun _ _ q => q.1.1)) (cwL_111 S.2.2.2.2 (rm := rmX10_set) rfl rfl ⟨(Nat.le_of_ble_eq_true rfl), (Nat.le_of_ble_eq_true rfl)⟩) hB 0 rfl rfl rfl hl.1 rfl (lv_room (Nat.le_of_ble_eq_true rfl)) dL_law_163 ⟨by dsimp only [room_1]; omega, by dsimp only [room_1]; omega⟩ (fun H locs hB => ?_)
        replace hB : gB D vwCl _ _ (LwW cI cJ cQ ad ra ar (rC σ1 τ_47)) [] _ _ := lwC2 hB
        refine lv_pop2_2 S.1 S.2.1 dL_law_166 rfl ?_
        refine lv_aload_n S.1 S.2.1 dL_law_167 rfl (lv_at hl 2 rfl) ?_
        refine lv_iconst (v := (1 : Int32)) S.1 S.2.1 dL_law_168 (by decide) ?_
        refine lv_iload S.1 S.2.1 dL_law_169 (lv_at hl 0 rfl) ?_
        refine lv_iconst (v := (2 : Int32)) S.1 S.2.1 dL_law_171 (by decide) ?_
        refine lv_ishr S.1 S.2.1 dL_law_172 ?_
        refine lv_iconst (v := (4 : Int32)) S.1 S.2.1 dL_law_173 (by decide) ?_
        obtain ⟨r_48, e_48, h⟩ := bnd h
        refine gCallS (v := some (.int r_48)) S hK lKSc hKS hA (kL_below e_48) (cwL_75 S.2.2.2.2 (rm := rmL_below) rfl rfl ⟨(Nat.le_of_ble_eq_true rfl), (Nat.le_of_ble_eq_true rfl)⟩) hB rfl hl.1 rfl (lv_room (Nat.le_of_ble_eq_true rfl)) dL_law_174 ⟨by dsimp only [room_1]; omega, by dsimp only [room_1]; omega⟩ (fun H locs hB => ?_)
        refine lv_i2l (v := r_48.toInt64) S.1 S.2.1 dL_law_177 rfl ?_
        obtain ⟨o_49, τ_49, e_49, h⟩ := b2s h
        obtain ⟨r_49, u_49, h⟩ := bnd h
        rw [oRt_eq u_49] at e_49
        replace hB := lwC hB
        refine gCallR (v0 := some (.long r_49)) (ci := 10) S hK lKSc hKS hA (gMetX.weak (kX10_set hl9 e_49) (fun _ _ q => q.1.1)) (cwL_111 S.2.2.2.2 (rm := rmX10_set) rfl rfl ⟨(Nat.le_of_ble_eq_true rfl), (Nat.le_of_ble_eq_true rfl)⟩) hB 0 rfl rfl rfl hl.1 rfl (lv_room (Nat.le_of_ble_eq_true rfl)) dL_law_178 ⟨by dsimp only [room_1]; omega, by dsimp only [room_1]; omega⟩ (fun H locs hB => ?_)
        replace hB : gB D vwCl _ _ (LwW cI cJ cQ ad ra ar (rC (rC σ1 τ_47) τ_49)) [] _ _ := lwC2 hB
        refine lv_pop2_2 S.1 S.2.1 dL_law_181 rfl ?_
        refine lv_aload_n S.1 S.2.1 dL_law_182 rfl (lv_at hl 2 rfl) ?_
        refine lv_iload S.1 S.2.1 dL_law_183 (lv_at hl 0 rfl) ?_
        refine lv_iconst (v := (4 : Int32)) S.1 S.2.1 dL_law_185 (by decide) ?_
        refine lv_ishr S.1 S.2.1 dL_law_186 ?_
        refine lv_iconst (v := (3 : Int32)) S.1 S.2.1 dL_law_187 (by decide) ?_
        obtain ⟨r_50, e_50, h⟩ := bnd h
        refine gCallS (v := some (.int r_50)) S hK lKSc hKS hA (kL_below e_50) (cwL_75 S.2.2.2.2 (rm := rmL_below) rfl rfl ⟨(Nat.le_of_ble_eq_true rfl), (Nat.le_of_ble_eq_true rfl)⟩) hB rfl hl.1 rfl (lv_room (Nat.le_of_ble_eq_true rfl)) dL_law_188 ⟨by dsimp only [room_1]; omega, by dsimp only [room_1]; omega⟩ (fun H locs hB => ?_)
        obtain ⟨o_51, τ_51, e_51, h⟩ := b2s h
        obtain ⟨r_51, u_51, h⟩ := bnd h
        rw [oRt_eq u_51] at e_51
        replace hB := lwC hB
        refine gCallR (v0 := some (.int r_51)) (ci := 10) S hK lKSc hKS hA (gMetX.weak (kX10_tick hl9 e_51) (fun _ _ q => q.1.1)) (cwL_115 S.2.2.2.2 (rm := rmX10_tick) rfl rfl ⟨(Nat.le_of_ble_eq_true rfl), (Nat.le_of_ble_eq_true rfl)⟩) hB 0 rfl rfl rfl hl.1 rfl (lv_room (Nat.le_of_ble_eq_true rfl)) dL_law_191 ⟨by dsimp only [room_1]; omega, by dsimp only [room_1]; omega⟩ (fun H locs hB => ?_)
        replace hB : gB D vwCl _ _ (LwW cI cJ cQ ad ra ar (rC (rC (rC σ1 τ_47) τ_49) τ_51)) [] _ _ := lwC2 hB
        refine lv_istore (lv' := [(9, .int r_51), (8, .int (r_45 >>> (((x7 / (5 : Int32)) * (5 : Int32)) &&& 31))), (0, .ref b), (1, .ref (ad 0)), (2, .ref (ar 0)), (4, .int x4), (6, .int x6), (7, .int x7)]) S.1 S.2.1 dL_law_194 hl (by decide) rfl (fun ls hl => ?_)
        refine lv_aload_n S.1 S.2.1 dL_law_196 rfl (lv_at hl 3 rfl) ?_
        refine lv_iload S.1 S.2.1 dL_law_197 (lv_at hl 5 rfl) ?_
        refine lv_iload S.1 S.2.1 dL_law_199 (lv_at hl 7 rfl) ?_
        obtain ⟨o_52, τ_52, e_52, h⟩ := b2s h
        obtain ⟨r_52, u_52, h⟩ := bnd h
        rw [oRt_eq u_52] at e_52
        replace hB := lwC hB
        refine gCallR (v0 := some (.int r_52)) (ci := 10) S hK lKSc hKS hA (gMetX.weak (kX10_let hl9 e_52) (fun _ _ q => q.1.1)) (cwL_118 S.2.2.2.2 (rm := rmX10_let) rfl rfl ⟨(Nat.le_of_ble_eq_true rfl), (Nat.le_of_ble_eq_true rfl)⟩) hB 0 rfl rfl rfl hl.1 rfl (lv_room (Nat.le_of_ble_eq_true rfl)) dL_law_201 ⟨by dsimp only [room_1]; omega, by dsimp only [room_1]; omega⟩ (fun H locs hB => ?_)
        replace hB : gB D vwCl _ _ (LwW cI cJ cQ ad ra ar (rC (rC (rC (rC σ1 τ_47) τ_49) τ_51) τ_52)) [] _ _ := lwC2 hB
        refine lv_istore (lv' := [(10, .int r_52), (9, .int r_51), (8, .int (r_45 >>> (((x7 / (5 : Int32)) * (5 : Int32)) &&& 31))), (0, .ref b), (1, .ref (ad 0)), (2, .ref (ar 0)), (4, .int x4), (6, .int x6), (7, .int x7)]) S.1 S.2.1 dL_law_204 hl (by decide) rfl (fun ls hl => ?_)
        refine lv_aload_n S.1 S.2.1 dL_law_206 rfl (lv_at hl 4 rfl) ?_
        refine lv_iload S.1 S.2.1 dL_law_207 (lv_at hl 6 rfl) ?_
        refine lv_iconst (v := (1 : Int32)) S.1 S.2.1 dL_law_209 (by decide) ?_
        refine lv_iadd S.1 S.2.1 dL_law_210 ?_
        refine lv_iload S.1 S.2.1 dL_law_211 (lv_at hl 8 rfl) ?_
        obtain ⟨o_53, τ_53, e_53, h⟩ := b2s h
        obtain ⟨r_53, u_53, h⟩ := bnd h
        rw [oRt_eq u_53] at e_53
        replace hB := lwC hB
        refine gCallR (v0 := some (.int r_53)) (ci := 10) S hK lKSc hKS hA (gMetX.weak (kX10_let hl9 e_53) (fun _ _ q => q.1.1)) (cwL_118 S.2.2.2.2 (rm := rmX10_let) rfl rfl ⟨(Nat.le_of_ble_eq_true rfl), (Nat.le_of_ble_eq_true rfl)⟩) hB 0 rfl rfl rfl hl.1 rfl (lv_room (Nat.le_of_ble_eq_true rfl)) dL_law_213 ⟨by dsimp only [room_1]; omega, by dsimp only [room_1]; omega⟩ (fun H locs hB => ?_)
        replace hB : gB D vwCl _ _ (LwW cI cJ cQ ad ra ar (rC (rC (rC (rC (rC σ1 τ_47) τ_49) τ_51) τ_52) τ_53)) [] _ _ := lwC2 hB
        refine lv_istore (lv' := [(11, .int r_53), (10, .int r_52), (9, .int r_51), (8, .int (r_45 >>> (((x7 / (5 : Int32)) * (5 : Int32)) &&& 31))), (0, .ref b), (1, .ref (ad 0)), (2, .ref (ar 0)), (4, .int x4), (6, .int x6), (7, .int x7)]) S.1 S.2.1 dL_law_216 hl (by decide) rfl (fun ls hl => ?_)
        refine lv_aload_n S.1 S.2.1 dL_law_218 rfl (lv_at hl 5 rfl) ?_
        refine lv_iload S.1 S.2.1 dL_law_219 (lv_at hl 7 rfl) ?_
        refine lv_iconst (v := (2 : Int32)) S.1 S.2.1 dL_law_221 (by decide) ?_
        refine lv_iadd S.1 S.2.1 dL_law_222 ?_
        refine lv_iload S.1 S.2.1 dL_law_223 (lv_at hl 9 rfl) ?_
        obtain ⟨o_54, τ_54, e_54, h⟩ := b2s h
        obtain ⟨r_54, u_54, h⟩ := bnd h
        rw [oRt_eq u_54] at e_54
        replace hB := lwC hB
        refine gCallR (v0 := some (.int r_54)) (ci := 10) S hK lKSc hKS hA (gMetX.weak (kX10_let hl9 e_54) (fun _ _ q => q.1.1)) (cwL_118 S.2.2.2.2 (rm := rmX10_let) rfl rfl ⟨(Nat.le_of_ble_eq_true rfl), (Nat.le_of_ble_eq_true rfl)⟩) hB 0 rfl rfl rfl hl.1 rfl (lv_room (Nat.le_of_ble_eq_true rfl)) dL_law_225 ⟨by dsimp only [room_1]; omega, by dsimp only [room_1]; omega⟩ (fun H locs hB => ?_)
        replace hB : gB D vwCl _ _ (LwW cI cJ cQ ad ra ar (rC (rC (rC (rC (rC (rC σ1 τ_47) τ_49) τ_51) τ_52) τ_53) τ_54)) [] _ _ := lwC2 hB
        refine lv_istore (lv' := [(12, .int r_54), (11, .int r_53), (10, .int r_52), (9, .int r_51), (8, .int (r_45 >>> (((x7 / (5 : Int32)) * (5 : Int32)) &&& 31))), (0, .ref b), (1, .ref (ad 0)), (2, .ref (ar 0)), (4, .int x4), (6, .int x6), (7, .int x7)]) S.1 S.2.1 dL_law_228 hl (by decide) rfl (fun ls hl => ?_)
        refine lv_aload_n S.1 S.2.1 dL_law_230 rfl (lv_at hl 6 rfl) ?_
        refine lv_iload S.1 S.2.1 dL_law_231 (lv_at hl 8 rfl) ?_
        refine lv_iconst (v := (3 : Int32)) S.1 S.2.1 dL_law_233 (by decide) ?_
        refine lv_iadd S.1 S.2.1 dL_law_234 ?_
        refine lv_iload S.1 S.2.1 dL_law_235 (lv_at hl 10 rfl) ?_
        obtain ⟨o_55, τ_55, e_55, h⟩ := b2s h
        obtain ⟨r_55, u_55, h⟩ := bnd h
        rw [oRt_eq u_55] at e_55
        replace hB := lwC hB
        refine gCallR (v0 := some (.int r_55)) (ci := 10) S hK lKSc hKS hA (gMetX.weak (kX10_let hl9 e_55) (fun _ _ q => q.1.1)) (cwL_118 S.2.2.2.2 (rm := rmX10_let) rfl rfl ⟨(Nat.le_of_ble_eq_true rfl), (Nat.le_of_ble_eq_true rfl)⟩) hB 0 rfl rfl rfl hl.1 rfl (lv_room (Nat.le_of_ble_eq_true rfl)) dL_law_237 ⟨by dsimp only [room_1]; omega, by dsimp only [room_1]; omega⟩ (fun H locs hB => ?_)
        replace hB : gB D vwCl _ _ (LwW cI cJ cQ ad ra ar (rC (rC (rC (rC (rC (rC (rC σ1 τ_47) τ_49) τ_51) τ_52) τ_53) τ_54) τ_55)) [] _ _ := lwC2 hB
        refine lv_istore (lv' := [(13, .int r_55), (12, .int r_54), (11, .int r_53), (10, .int r_52), (9, .int r_51), (8, .int (r_45 >>> (((x7 / (5 : Int32)) * (5 : Int32)) &&& 31))), (0, .ref b), (1, .ref (ad 0)), (2, .ref (ar 0)), (4, .int x4), (6, .int x6), (7, .int x7)]) S.1 S.2.1 dL_law_240 hl (by decide) rfl (fun ls hl => ?_)
        refine lv_aload_n S.1 S.2.1 dL_law_242 rfl (lv_at hl 7 rfl) ?_
        refine lv_iload S.1 S.2.1 dL_law_243 (lv_at hl 9 rfl) ?_
        refine lv_iconst (v := (4 : Int32)) S.1 S.2.1 dL_law_245 (by decide) ?_
        refine lv_iadd S.1 S.2.1 dL_law_246 ?_
        refine lv_iload S.1 S.2.1 dL_law_247 (lv_at hl 11 rfl) ?_
        obtain ⟨o_56, τ_56, e_56, h⟩ := b2s h
        obtain ⟨r_56, u_56, h⟩ := bnd h
        rw [oRt_eq u_56] at e_56
        replace hB := lwC hB
        refine gCallR (v0 := some (.int r_56)) (ci := 10) S hK lKSc hKS hA (gMetX.weak (kX10_let hl9 e_56) (fun _ _ q => q.1.1)) (cwL_118 S.2.2.2.2 (rm := rmX10_let) rfl rfl ⟨(Nat.le_of_ble_eq_true rfl), (Nat.le_of_ble_eq_true rfl)⟩) hB 0 rfl rfl rfl hl.1 rfl (lv_room (Nat.le_of_ble_eq_true rfl)) dL_law_249 ⟨by dsimp only [room_1]; omega, by dsimp only [room_1]; omega⟩ (fun H locs hB => ?_)
        replace hB : gB D vwCl _ _ (LwW cI cJ cQ ad ra ar (rC (rC (rC (rC (rC (rC (rC (rC σ1 τ_47) τ_49) τ_51) τ_52) τ_53) τ_54) τ_55) τ_56)) [] _ _ := lwC2 hB
        refine lv_istore (lv' := [(14, .int r_56), (13, .int r_55), (12, .int r_54), (11, .int r_53), (10, .int r_52), (9, .int r_51), (8, .int (r_45 >>> (((x7 / (5 : Int32)) * (5 : Int32)) &&& 31))), (0, .ref b), (1, .ref (ad 0)), (2, .ref (ar 0)), (4, .int x4), (6, .int x6), (7, .int x7)]) S.1 S.2.1 dL_law_252 hl (by decide) rfl (fun ls hl => ?_)
        refine lv_iload S.1 S.2.1 dL_law_254 (lv_at hl 2 rfl) ?_
        refine lv_iload S.1 S.2.1 dL_law_256 (lv_at hl 4 rfl) ?_
        refine lv_if_ne (tgt := 281) S.1 S.2.1 dL_law_258 (by decide) (fun c_57 => ?_) (fun c_57 => ?_)
        · replace h := (if_neg c_57).symm.trans h
          exact P281 (FL_law_127 L N xs n) _ _ hb127 ihc _ _ _ _ _ _ _ _ _ _ _ _ _ _ _ (by omega) (by omega) h hB (lv_sub hl [7, 8, 9, 10, 11, 12, 5, 4, 3, 1, 0] rfl)
        · replace h := (if_pos c_57).symm.trans h
          refine lv_iload S.1 S.2.1 dL_law_261 (lv_at hl 12 rfl) ?_
          refine lv_if_le (tgt := 285) S.1 S.2.1 dL_law_263 (by decide) (fun c_81 => ?_) (fun c_81 => ?_)
          · replace h := (if_pos c_81).symm.trans h
            exact P285 (FL_law_127 L N xs n) _ _ hb127 ihc _ _ _ _ _ _ _ _ _ _ _ _ _ _ _ (by omega) (by omega) h hB (lv_sub hl [7, 8, 9, 10, 11, 12, 5, 4, 3, 1, 0] rfl)
          · replace h := (if_neg c_81).symm.trans h
            refine lv_aload_n S.1 S.2.1 dL_law_266 rfl (lv_at hl 8 rfl) ?_
            refine lv_iload S.1 S.2.1 dL_law_267 (lv_at hl 10 rfl) ?_
            refine lv_iconst (v := (2 : Int32)) S.1 S.2.1 dL_law_269 (by decide) ?_
            refine lv_iadd S.1 S.2.1 dL_law_270 ?_
            refine lv_iload S.1 S.2.1 dL_law_271 (lv_at hl 12 rfl) ?_
            refine lv_iconst (v := (1 : Int32)) S.1 S.2.1 dL_law_273 (by decide) ?_
            refine lv_isub S.1 S.2.1 dL_law_274 ?_
            obtain ⟨o_82, τ_82, e_82, h⟩ := b2s h
            obtain ⟨r_82, u_82, h⟩ := bnd h
            rw [oRt_eq u_82] at e_82
            replace hB := lwC hB
            refine gCallR (v0 := some (.int r_82)) (ci := 10) S hK lKSc hKS hA (gMetX.weak (kX10_let hl9 e_82) (fun _ _ q => q.1.1)) (cwL_118 S.2.2.2.2 (rm := rmX10_let) rfl rfl ⟨(Nat.le_of_ble_eq_true rfl), (Nat.le_of_ble_eq_true rfl)⟩) hB 0 rfl rfl rfl hl.1 rfl (lv_room (Nat.le_of_ble_eq_true rfl)) dL_law_275 ⟨by dsimp only [room_1]; omega, by dsimp only [room_1]; omega⟩ (fun H locs hB => ?_)
            replace hB : gB D vwCl _ _ (LwW cI cJ cQ ad ra ar (rC (rC (rC (rC (rC (rC (rC (rC (rC σ1 τ_47) τ_49) τ_51) τ_52) τ_53) τ_54) τ_55) τ_56) τ_82)) [] _ _ := lwC2 hB
            refine lv_if_eq (tgt := 285) S.1 S.2.1 dL_law_278 (by decide) (fun c_83 => ?_) (fun c_83 => ?_)
            · replace h := (if_pos c_83).symm.trans h
              exact P285 (FL_law_127 L N xs n) _ _ hb127 ihc _ _ _ _ _ _ _ _ _ _ _ _ _ _ _ (by omega) (by omega) h hB (lv_sub hl [7, 8, 9, 10, 11, 12, 5, 4, 3, 1, 0] rfl)
            · replace h := (if_neg c_83).symm.trans h
              exact P281 (FL_law_127 L N xs n) _ _ hb127 ihc _ _ _ _ _ _ _ _ _ _ _ _ _ _ _ (by omega) (by omega) h hB (lv_sub hl [7, 8, 9, 10, 11, 12, 5, 4, 3, 1, 0] rfl)
  refine lv_aload_n S.1 S.2.1 dL_law_19 rfl (lv_at hl 1 rfl) ?_
  refine lv_aload_n S.1 S.2.1 dL_law_20 rfl (lv_at hl 3 rfl) ?_
  refine lv_iconst (v := (0 : Int32)) S.1 S.2.1 dL_law_21 (by decide) ?_
  refine lv_bipush (v := (6 : Int32)) S.1 S.2.1 dL_law_22 (by decide) ?_
  refine lv_aload_n S.1 S.2.1 dL_law_24 rfl (lv_at hl 0 rfl) ?_
  obtain ⟨r_1, σ_1, e_1, h⟩ := b2s h
  refine gCallS (v := some (.int r_1)) S hK lKSc hKS hA (kL_parts e_1) (cwL_94 S.2.2.2.2 (rm := rmL_parts) rfl rfl ⟨(Nat.le_of_ble_eq_true rfl), (Nat.le_of_ble_eq_true rfl)⟩) hB rfl hl.1 rfl (lv_room (Nat.le_of_ble_eq_true rfl)) dL_law_25 ⟨by dsimp only [room_1]; omega, by dsimp only [room_1]; omega⟩ (fun H locs hB => ?_)
  refine lv_istore (lv' := [(4, .int r_1), (3, .ref (ar 1)), (2, .ref (ar 0)), (1, .ref (ad 0)), (0, .ref b)]) S.1 S.2.1 dL_law_28 hl (by decide) rfl (fun ls hl => ?_)
  refine lv_aload_n S.1 S.2.1 dL_law_30 rfl (lv_at hl 2 rfl) ?_
  refine va_ldcS S.1 S.2.1 S.2.2.2.1 (hKS.1.1.1.1.1.2.1 (RL, 98, "let f := is l", 93) (List.mem_of_getElem? (i := 93) rfl)) dL_law_31 ?_
  obtain ⟨_, σ_2, e_2, h⟩ := b2s h
  refine gCallS (v := none) S hK lKSc hKS hA (kL_put (by decide) e_2) (cwL_40 S.2.2.2.2 (rm := rmL_put) rfl rfl ⟨(Nat.le_of_ble_eq_true rfl), (Nat.le_of_ble_eq_true rfl)⟩) hB rfl hl.1 rfl (lv_room (Nat.le_of_ble_eq_true rfl)) dL_law_33 ⟨by dsimp only [room_1]; omega, by dsimp only [room_1]; omega⟩ (fun H locs hB => ?_)
  refine lv_aload_n S.1 S.2.1 dL_law_36 rfl (lv_at hl 2 rfl) ?_
  refine lv_iload S.1 S.2.1 dL_law_37 (lv_at hl 0 rfl) ?_
  refine lv_iconst (v := (1 : Int32)) S.1 S.2.1 dL_law_39 (by decide) ?_
  refine lv_isub S.1 S.2.1 dL_law_40 ?_
  obtain ⟨_, σ_3, e_3, h⟩ := b2s h
  refine gCallS (v := none) S hK lKSc hKS hA (kL_put_ e_3) (cwL_19 S.2.2.2.2 (rm := rmL_put_) rfl rfl ⟨(Nat.le_of_ble_eq_true rfl), (Nat.le_of_ble_eq_true rfl)⟩) hB rfl hl.1 rfl (lv_room (Nat.le_of_ble_eq_true rfl)) dL_law_41 ⟨by dsimp only [room_1]; omega, by dsimp only [room_1]; omega⟩ (fun H locs hB => ?_)
  refine lv_aload_n S.1 S.2.1 dL_law_44 rfl (lv_at hl 2 rfl) ?_
  refine va_ldcS S.1 S.2.1 S.2.2.2.1 (hKS.1.1.1.1.1.2.1 (RL, 100, "; let g := is l", 94) (List.mem_of_getElem? (i := 94) rfl)) dL_law_45 ?_
  obtain ⟨_, σ_4, e_4, h⟩ := b2s h
  refine gCallS (v := none) S hK lKSc hKS hA (kL_put (by decide) e_4) (cwL_40 S.2.2.2.2 (rm := rmL_put) rfl rfl ⟨(Nat.le_of_ble_eq_true rfl), (Nat.le_of_ble_eq_true rfl)⟩) hB rfl hl.1 rfl (lv_room (Nat.le_of_ble_eq_true rfl)) dL_law_47 ⟨by dsimp only [room_1]; omega, by dsimp only [room_1]; omega⟩ (fun H locs hB => ?_)
  refine lv_aload_n S.1 S.2.1 dL_law_50 rfl (lv_at hl 2 rfl) ?_
  refine lv_iload S.1 S.2.1 dL_law_51 (lv_at hl 0 rfl) ?_
  refine lv_iconst (v := (2 : Int32)) S.1 S.2.1 dL_law_53 (by decide) ?_
  refine lv_isub S.1 S.2.1 dL_law_54 ?_
  obtain ⟨_, σ_5, e_5, h⟩ := b2s h
  refine gCallS (v := none) S hK lKSc hKS hA (kL_put_ e_5) (cwL_19 S.2.2.2.2 (rm := rmL_put_) rfl rfl ⟨(Nat.le_of_ble_eq_true rfl), (Nat.le_of_ble_eq_true rfl)⟩) hB rfl hl.1 rfl (lv_room (Nat.le_of_ble_eq_true rfl)) dL_law_55 ⟨by dsimp only [room_1]; omega, by dsimp only [room_1]; omega⟩ (fun H locs hB => ?_)
  refine lv_aload_n S.1 S.2.1 dL_law_58 rfl (lv_at hl 2 rfl) ?_
  refine va_ldcS S.1 S.2.1 S.2.2.2.1 (hKS.1.1.1.1.1.2.1 (RL, 102, "; let h := once is f; let p := always is f; let q := is f since is g; let u := once [1 .. 4] is f; let v := always [1 .. 4] not is f; watch w: is p; watch z: not once not is f;", 95) (List.mem_of_getElem? (i := 95) rfl)) dL_law_59 ?_
  obtain ⟨_, σ_6, e_6, h⟩ := b2s h
  refine gCallS (v := none) S hK lKSc hKS hA (kL_put (by decide) e_6) (cwL_40 S.2.2.2.2 (rm := rmL_put) rfl rfl ⟨(Nat.le_of_ble_eq_true rfl), (Nat.le_of_ble_eq_true rfl)⟩) hB rfl hl.1 rfl (lv_room (Nat.le_of_ble_eq_true rfl)) dL_law_61 ⟨by dsimp only [room_1]; omega, by dsimp only [room_1]; omega⟩ (fun H locs hB => ?_)
  refine lv_aload_n S.1 S.2.1 dL_law_64 rfl (lv_at hl 3 rfl) ?_
  refine lv_aload_n S.1 S.2.1 dL_law_65 rfl (lv_at hl 2 rfl) ?_
  obtain ⟨r_7, σ_7, e_7, h⟩ := b2s h
  refine gCallS (v := some (.int r_7)) S hK lKSc hKS hA (kL_lay hl9 e_7) (cwL_104 S.2.2.2.2 (rm := rmL_lay) rfl rfl ⟨(Nat.le_of_ble_eq_true rfl), (Nat.le_of_ble_eq_true rfl)⟩) hB rfl hl.1 rfl (lv_room (Nat.le_of_ble_eq_true rfl)) dL_law_66 ⟨by dsimp only [room_1]; omega, by dsimp only [room_1]; omega⟩ (fun H locs hB => ?_)
  refine lv_if_ne (tgt := 74) S.1 S.2.1 dL_law_69 (by decide) (fun c_8 => ?_) (fun c_8 => ?_)
  · replace h := (if_neg c_8).symm.trans h
    refine lv_aload_n S.1 S.2.1 dL_law_74 rfl (lv_at hl 3 rfl) ?_
    obtain ⟨r_9, τ_9, e_9, h⟩ := b2s h
    replace hB := lwC hB
    refine gCallV (v := some (.int r_9)) (ci := 10) S hK lKSc hKS hA (gMet.weak (kX10_compile e_9) (fun _ _ q => q.1.1.1)) (cwL_108 S.2.2.2.2 (rm := rmX10_compile) rfl rfl ⟨(Nat.le_of_ble_eq_true rfl), (Nat.le_of_ble_eq_true rfl)⟩) hB 0 rfl rfl rfl hl.1 rfl (lv_room (Nat.le_of_ble_eq_true rfl)) dL_law_75 ⟨by dsimp only [room_1]; omega, by dsimp only [room_1]; omega⟩ (fun H locs hB => ?_)
    replace hB : gB D vwCl _ _ (LwW cI cJ cQ ad ra ar (rC σ_7 τ_9)) [] _ _ := lwC2 hB
    refine lv_istore (lv' := [(5, .int r_9), (4, .int r_1), (3, .ref (ar 1)), (2, .ref (ar 0)), (1, .ref (ad 0)), (0, .ref b)]) S.1 S.2.1 dL_law_78 hl (by decide) rfl (fun ls hl => ?_)
    refine lv_iload S.1 S.2.1 dL_law_80 (lv_at hl 1 rfl) ?_
    refine lv_bipush (v := (7 : Int32)) S.1 S.2.1 dL_law_82 (by decide) ?_
    refine lv_iadd S.1 S.2.1 dL_law_84 ?_
    refine lv_bipush (v := (12 : Int32)) S.1 S.2.1 dL_law_85 (by decide) ?_
    refine lv_icmp_le (tgt := 102) S.1 S.2.1 dL_law_87 (by decide) (fun c_10 => ?_) (fun c_10 => ?_)
    · replace h := (if_pos c_10).symm.trans h
      refine lv_iload S.1 S.2.1 dL_law_102 (lv_at hl 0 rfl) ?_
      refine lv_if_eq (tgt := 109) S.1 S.2.1 dL_law_104 (by decide) (fun c_11 => ?_) (fun c_11 => ?_)
      · replace h := (if_pos c_11).symm.trans h
        refine lv_iconst (v := (1 : Int32)) S.1 S.2.1 dL_law_109 (by decide) ?_
        refine lv_aload_n S.1 S.2.1 dL_law_110 rfl (lv_at hl 5 rfl) ?_
        refine lv_bipush (v := (8 : Int32)) S.1 S.2.1 dL_law_111 (by decide) ?_
        obtain ⟨r_12, e_12, h⟩ := bnd h
        refine gCallS (v := some (.int r_12)) S hK lKSc hKS hA (kL_cell e_12) (cwL_71 S.2.2.2.2 (rm := rmL_cell) rfl rfl ⟨(Nat.le_of_ble_eq_true rfl), (Nat.le_of_ble_eq_true rfl)⟩) hB rfl hl.1 rfl (lv_room (Nat.le_of_ble_eq_true rfl)) dL_law_113 ⟨by dsimp only [room_1]; omega, by dsimp only [room_1]; omega⟩ (fun H locs hB => ?_)
        refine lv_bipush (v := (12 : Int32)) S.1 S.2.1 dL_law_116 (by decide) ?_
        obtain ⟨r_13, e_13, h⟩ := bnd h
        refine gCallS (v := some (.int r_13)) S hK lKSc hKS hA (kL_below e_13) (cwL_75 S.2.2.2.2 (rm := rmL_below) rfl rfl ⟨(Nat.le_of_ble_eq_true rfl), (Nat.le_of_ble_eq_true rfl)⟩) hB rfl hl.1 rfl (lv_room (Nat.le_of_ble_eq_true rfl)) dL_law_118 ⟨by dsimp only [room_1]; omega, by dsimp only [room_1]; omega⟩ (fun H locs hB => ?_)
        refine lv_iadd S.1 S.2.1 dL_law_121 ?_
        refine lv_istore (lv' := [(6, .int ((1 : Int32) + r_13)), (5, .int r_9), (4, .int r_1), (3, .ref (ar 1)), (2, .ref (ar 0)), (1, .ref (ad 0)), (0, .ref b)]) S.1 S.2.1 dL_law_122 hl (by decide) rfl (fun ls hl => ?_)
        refine lv_iconst (v := (0 : Int32)) S.1 S.2.1 dL_law_124 (by decide) ?_
        refine lv_istore (lv' := [(7, .int (0 : Int32)), (6, .int ((1 : Int32) + r_13)), (5, .int r_9), (4, .int r_1), (3, .ref (ar 1)), (2, .ref (ar 0)), (1, .ref (ad 0)), (0, .ref b)]) S.1 S.2.1 dL_law_125 hl (by decide) rfl (fun ls hl => ?_)
        exact P127  14 _ _ _ _ _ _ _ _ _ (by omega) (by omega) h hB (lv_sub hl [7, 6, 5, 3, 1, 0] rfl)
      · replace h := (if_neg c_11).symm.trans h
        refine lv_iconst (v := (0 : Int32)) S.1 S.2.1 dL_law_107 (by decide) ?_
        exact absurd (congrArg Prod.fst (Option.some.inj h)) (show ¬ ((0 : Int32) = 1) by decide)
    · replace h := (if_neg c_10).symm.trans h
      refine lv_iload S.1 S.2.1 dL_law_90 (lv_at hl 0 rfl) ?_
      refine lv_iconst (v := (4 : Int32)) S.1 S.2.1 dL_law_92 (by decide) ?_
      refine lv_icmp_ne (tgt := 100) S.1 S.2.1 dL_law_93 (by decide) (fun c_84 => ?_) (fun c_84 => ?_)
      · replace h := (if_neg c_84).symm.trans h
        refine lv_iconst (v := (0 : Int32)) S.1 S.2.1 dL_law_100 (by decide) ?_
        exact absurd (congrArg Prod.fst (Option.some.inj h)) (show ¬ ((0 : Int32) = 1) by decide)
      · replace h := (if_pos c_84).symm.trans h
        refine lv_iconst (v := (1 : Int32)) S.1 S.2.1 dL_law_96 (by decide) ?_
        refine lv_goto (tgt := 101) S.1 S.2.1 dL_law_97 (by decide) ?_
        exact kend 101 _ _ _ _ _ dL_law_101 hB.2.2 (by dsimp only [room_1]; omega) (by dsimp only [room_1]; omega)
  · replace h := (if_pos c_8).symm.trans h
    refine lv_iconst (v := (0 : Int32)) S.1 S.2.1 dL_law_72 (by decide) ?_
    exact absurd (congrArg Prod.fst (Option.some.inj h)) (show ¬ ((0 : Int32) = 1) by decide)
