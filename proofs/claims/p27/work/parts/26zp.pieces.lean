-- the pieces of the law's texts, and their tokens
def dgt (a : Nat) : Int32 := nI (48 + a)
def wl (a : Nat) : Int64 := wdL [108, dgt a]
def num (a : Nat) : Int64 := nmL [dgt a]
def tLet : List Int32 := [108, 101, 116, 32]
def kLet : List (Int32 × Int64) := [(1, 7103860)]
theorem pc_Let : Pc tLet kLet := pc_of 1 _ _ rfl (by decide +kernel) (by decide +kernel)
def tAs : List Int32 := [58, 61, 32]
def kAs : List (Int32 × Int64) := [(38, 0)]
theorem pc_As : Pc tAs kAs := pc_of 1 _ _ rfl (by decide +kernel) (by decide +kernel)
def tIs : List Int32 := [105, 115, 32]
def kIs : List (Int32 × Int64) := [(15, 26995)]
theorem pc_Is : Pc tIs kIs := pc_of 1 _ _ rfl (by decide +kernel) (by decide +kernel)
def tSig : List Int32 := [115, 105, 103, 110, 97, 108, 32, 120, 32, 61, 32, 48, 59, 32, 115, 105, 103, 110, 97, 108, 32, 121, 32, 61, 32, 50, 59, 32]
def kSig : List (Int32 × Int64) := [(0, 126896544047468), (51, 120), (44, 0), (52, 0), (36, 0), (0, 126896544047468), (51, 121), (44, 0), (52, 2), (36, 0)]
theorem pc_Sig : Pc tSig kSig := pc_of 10 _ _ rfl (by decide +kernel) (by decide +kernel)
def tDots : List Int32 := [46, 46, 32]
def kDots : List (Int32 × Int64) := [(50, 0)]
theorem pc_Dots : Pc tDots kDots := pc_of 1 _ _ rfl (by decide +kernel) (by decide +kernel)
def tFf : List Int32 := [108, 101, 116, 32, 102, 32, 58, 61, 32, 105, 115, 32]
def kFf : List (Int32 × Int64) := [(1, 7103860), (51, 102), (38, 0), (15, 26995)]
theorem pc_Ff : Pc tFf kFf := pc_of 4 _ _ rfl (by decide +kernel) (by decide +kernel)
def tGg : List Int32 := [108, 101, 116, 32, 103, 32, 58, 61, 32, 105, 115, 32]
def kGg : List (Int32 × Int64) := [(1, 7103860), (51, 103), (38, 0), (15, 26995)]
theorem pc_Gg : Pc tGg kGg := pc_of 4 _ _ rfl (by decide +kernel) (by decide +kernel)
def tFr0 : List Int32 := [110, 111, 116, 32]
def kFr0 : List (Int32 × Int64) := [(5, 7237492)]
theorem pc_Fr0 : Pc tFr0 kFr0 := pc_of 1 _ _ rfl (by decide +kernel) (by decide +kernel)
def tFr1 : List Int32 := [112, 114, 101, 118, 32]
def kFr1 : List (Int32 × Int64) := [(6, 1886545270)]
theorem pc_Fr1 : Pc tFr1 kFr1 := pc_of 1 _ _ rfl (by decide +kernel) (by decide +kernel)
def tFr2 : List Int32 := [114, 105, 115, 101, 32]
def kFr2 : List (Int32 × Int64) := [(7, 1919513445)]
theorem pc_Fr2 : Pc tFr2 kFr2 := pc_of 1 _ _ rfl (by decide +kernel) (by decide +kernel)
def tFr3 : List Int32 := [102, 97, 108, 108, 32]
def kFr3 : List (Int32 × Int64) := [(8, 1717660780)]
theorem pc_Fr3 : Pc tFr3 kFr3 := pc_of 1 _ _ rfl (by decide +kernel) (by decide +kernel)
def tFr4 : List Int32 := [111, 110, 99, 101, 32]
def kFr4 : List (Int32 × Int64) := [(9, 1869505381)]
theorem pc_Fr4 : Pc tFr4 kFr4 := pc_of 1 _ _ rfl (by decide +kernel) (by decide +kernel)
def tFr5 : List Int32 := [97, 108, 119, 97, 121, 115, 32]
def kFr5 : List (Int32 × Int64) := [(10, 107118487239027)]
theorem pc_Fr5 : Pc tFr5 kFr5 := pc_of 1 _ _ rfl (by decide +kernel) (by decide +kernel)
def tMi0 : List Int32 := [115, 105, 110, 99, 101, 32]
def kMi0 : List (Int32 × Int64) := [(11, 495690081125)]
theorem pc_Mi0 : Pc tMi0 kMi0 := pc_of 1 _ _ rfl (by decide +kernel) (by decide +kernel)
def tMi1 : List Int32 := [97, 110, 100, 32]
def kMi1 : List (Int32 × Int64) := [(12, 6385252)]
theorem pc_Mi1 : Pc tMi1 kMi1 := pc_of 1 _ _ rfl (by decide +kernel) (by decide +kernel)
def tMi2 : List Int32 := [111, 114, 32]
def kMi2 : List (Int32 × Int64) := [(13, 28530)]
theorem pc_Mi2 : Pc tMi2 kMi2 := pc_of 1 _ _ rfl (by decide +kernel) (by decide +kernel)
def tMi3 : List Int32 := [105, 109, 112, 108, 105, 101, 115, 32]
def kMi3 : List (Int32 × Int64) := [(14, 29675202177230195)]
theorem pc_Mi3 : Pc tMi3 kMi3 := pc_of 1 _ _ rfl (by decide +kernel) (by decide +kernel)
def tAt0 : List Int32 := [120, 32, 62, 32, 121, 59, 32]
def kAt0 : List (Int32 × Int64) := [(51, 120), (47, 0), (51, 121), (36, 0)]
theorem pc_At0 : Pc tAt0 kAt0 := pc_of 4 _ _ rfl (by decide +kernel) (by decide +kernel)
def tAt1 : List Int32 := [120, 32, 61, 32, 49, 59, 32]
def kAt1 : List (Int32 × Int64) := [(51, 120), (44, 0), (52, 1), (36, 0)]
theorem pc_At1 : Pc tAt1 kAt1 := pc_of 4 _ _ rfl (by decide +kernel) (by decide +kernel)
def tAt2 : List Int32 := [121, 32, 60, 61, 32, 50, 59, 32]
def kAt2 : List (Int32 × Int64) := [(51, 121), (48, 0), (52, 2), (36, 0)]
theorem pc_At2 : Pc tAt2 kAt2 := pc_of 4 _ _ rfl (by decide +kernel) (by decide +kernel)
def tAt3 : List Int32 := [120, 32, 43, 32, 121, 32, 60, 62, 32, 51, 59, 32]
def kAt3 : List (Int32 × Int64) := [(51, 120), (39, 0), (51, 121), (45, 0), (52, 3), (36, 0)]
theorem pc_At3 : Pc tAt3 kAt3 := pc_of 6 _ _ rfl (by decide +kernel) (by decide +kernel)
def gLa (a : Nat) : List Int32 := [108, dgt a, 32]
def gLs (a : Nat) : List Int32 := [108, dgt a, 59, 32]
def gOp (a : Nat) : List Int32 := [91, dgt a, 32]
def gCl (a : Nat) : List Int32 := [dgt a, 93, 32]
theorem qL : ∀ a, a < 10 → scn 1 (gLa a) = [(51, wl a)] ∧ itL 1 (gLa a) = [32] := by decide +kernel
theorem qLs : ∀ a, a < 10 → scn 2 (gLs a) = [(51, wl a), (36, 0)] ∧ itL 2 (gLs a) = [32] := by decide +kernel
theorem qOp : ∀ a, a < 10 → scn 2 (gOp a) = [(34, 0), (52, num a)] ∧ itL 2 (gOp a) = [32] := by decide +kernel
theorem qCl : ∀ a, a < 10 → scn 2 (gCl a) = [(52, num a), (35, 0)] ∧ itL 2 (gCl a) = [32] := by decide +kernel
theorem pc_gLa {a : Nat} (h : a < 10) : Pc (gLa a) [(51, wl a)] := pc_of 1 _ _ rfl (qL a h).1 (qL a h).2
theorem pc_gLs {a : Nat} (h : a < 10) : Pc (gLs a) [(51, wl a), (36, 0)] := pc_of 2 _ _ rfl (qLs a h).1 (qLs a h).2
theorem pc_gOp {a : Nat} (h : a < 10) : Pc (gOp a) [(34, 0), (52, num a)] := pc_of 2 _ _ rfl (qOp a h).1 (qOp a h).2
theorem pc_gCl {a : Nat} (h : a < 10) : Pc (gCl a) [(52, num a), (35, 0)] := pc_of 2 _ _ rfl (qCl a h).1 (qCl a h).2
theorem num_ok : ∀ lo, lo < 10 → ∀ hi, hi < 10 → lo ≤ hi → (num lo).toInt32 ≤ 1000 ∧ ¬ (1000 < (num hi).toInt32 ∨ (num hi).toInt32 < (num lo).toInt32) := by decide +kernel
theorem wl_inj : ∀ a, a < 10 → ∀ b, b < 10 → a ≠ b → wl a ≠ wl b := by decide +kernel
def wN (n : Nat) : Int64 := Int64.ofNat n
def w_x : Int64 := 120
def w_y : Int64 := 121
def w_f : Int64 := 102
def w_g : Int64 := 103
def w_h : Int64 := 104
def w_p : Int64 := 112
def w_q : Int64 := 113
def w_u : Int64 := 117
def w_v : Int64 := 118
def w_w : Int64 := 119
def w_z : Int64 := 122
theorem wl_ne : ∀ a, a < 10 → wl a ≠ w_x ∧ wl a ≠ w_y ∧ wl a ≠ w_f ∧ wl a ≠ w_g ∧ wl a ≠ w_h ∧ wl a ≠ w_p ∧ wl a ≠ w_q ∧ wl a ≠ w_u ∧ wl a ≠ w_v ∧ wl a ≠ w_w ∧ wl a ≠ w_z := by decide +kernel
def tZz : List Int32 := [108, 101, 116, 32, 104, 32, 58, 61, 32, 111, 110, 99, 101, 32, 105, 115, 32, 102, 59, 32, 108, 101, 116, 32, 112, 32, 58, 61, 32, 97, 108, 119, 97, 121, 115, 32, 105, 115, 32, 102, 59, 32, 108, 101, 116, 32, 113, 32, 58, 61, 32, 105, 115, 32, 102, 32, 115, 105, 110, 99, 101, 32, 105, 115, 32, 103, 59, 32, 108, 101, 116, 32, 117, 32, 58, 61, 32, 111, 110, 99, 101, 32, 91, 49, 32, 46, 46, 32, 52, 93, 32, 105, 115, 32, 102, 59, 32, 108, 101, 116, 32, 118, 32, 58, 61, 32, 97, 108, 119, 97, 121, 115, 32, 91, 49, 32, 46, 46, 32, 52, 93, 32, 110, 111, 116, 32, 105, 115, 32, 102, 59, 32, 119, 97, 116, 99, 104, 32, 119, 58, 32, 105, 115, 32, 112, 59, 32, 119, 97, 116, 99, 104, 32, 122, 58, 32, 110, 111, 116, 32, 111, 110, 99, 101, 32, 110, 111, 116, 32, 105, 115, 32, 102, 59]
def kZz : List (Int32 × Int64) := [(1, 7103860), (51, 104), (38, 0), (9, 1869505381), (15, 26995), (51, 102), (36, 0), (1, 7103860), (51, 112), (38, 0), (10, 107118487239027), (15, 26995), (51, 102), (36, 0), (1, 7103860), (51, 113), (38, 0), (15, 26995), (51, 102), (11, 495690081125), (15, 26995), (51, 103), (36, 0), (1, 7103860), (51, 117), (38, 0), (9, 1869505381), (34, 0), (52, 1), (50, 0), (52, 4), (35, 0), (15, 26995), (51, 102), (36, 0), (1, 7103860), (51, 118), (38, 0), (10, 107118487239027), (34, 0), (52, 1), (50, 0), (52, 4), (35, 0), (5, 7237492), (15, 26995), (51, 102), (36, 0), (3, 512736125800), (51, 119), (37, 0), (15, 26995), (51, 112), (36, 0), (3, 512736125800), (51, 122), (37, 0), (5, 7237492), (9, 1869505381), (5, 7237492), (15, 26995), (51, 102), (36, 0)]
theorem tkZz0 : ∀ j, j < 63 → TK tZz j = kZz.getD j (53, 0) := by decide +kernel
theorem tkZz1 : itL 63 tZz = [] := by decide +kernel
def tQu : List Int32 := [123, 32, 105, 115, 32, 102, 32, 115, 105, 110, 99, 101, 32, 105, 115, 32, 103, 32, 125, 32, 97, 110, 100, 32, 111, 110, 99, 101, 32, 91, 49, 32, 46, 46, 32, 52, 93, 32, 105, 115, 32, 102]
def kQu : List (Int32 × Int64) := [(32, 0), (15, 26995), (51, 102), (11, 495690081125), (15, 26995), (51, 103), (33, 0), (12, 6385252), (9, 1869505381), (34, 0), (52, 1), (50, 0), (52, 4), (35, 0), (15, 26995), (51, 102)]
theorem tkQu0 : ∀ j, j < 16 → TK tQu j = kQu.getD j (53, 0) := by decide +kernel
theorem tkQu1 : itL 16 tQu = [] := by decide +kernel
-- items: tokens of a row in a context
def tAt (c : Cx) (k : Nat) (ts : List (Int32 × Int64)) : Prop := ∀ j, j < ts.length → c.1 (k + j) = (ts.getD j (53, 0)).1 ∧ c.2.2.1 (k + j) = (ts.getD j (53, 0)).2
section IT
variable {c : Cx} {k j kk a b lo hi : Nat} {n : Int32} {D : Den}
theorem nmF_ok (h : c.2.2.2 (c.2.2.1 j) = some (1, n, D)) : nmF c j = .ok D := by
  unfold nmF
  rw [h]
  exact if_pos (Or.inl rfl)
theorem nmV_ok (h : c.2.2.2 (c.2.2.1 j) = some (0, n, D)) : nmV' c j = .ok (dVal 21 n 0 zV zV zV) := by
  unfold nmV'
  rw [h]
  exact if_pos rfl
theorem bdM_ok (h1 : c.2.2.1 k = num lo) (h2 : c.2.2.1 j = num hi) (hl : lo ≤ hi) (hh : hi < 10) : bdM c k j = .ok ((num lo).toInt32, (num hi).toInt32) := by
  obtain ⟨a, b⟩ := num_ok lo (by omega) hi hh hl
  unfold bdM nb
  rw [h1, h2, if_pos a, if_neg b]
/-- names of an item: what it may look at -/
def Nms (c : Cx) (kk : Nat) : Prop := (∀ a, a < kk → ∃ D, c.2.2.2 (wl a) = some (1, nI a, D)) ∧ (∃ D, c.2.2.2 w_x = some (0, 0, D)) ∧ ∃ D, c.2.2.2 w_y = some (0, 1, D)
def ItOK (kk : Nat) (A : List Int32) : Prop := ∃ ts, Pc A ts ∧ 4 ≤ ts.length ∧ ts.length ≤ 20 ∧ (ts.getD 0 (53, 0)).1 = 1 ∧ ts.getD 1 (53, 0) = (51, wl kk) ∧ ∀ (c : Cx) (k : Nat), tAt c k ts → k + 20 < 400 → Nms c kk → ∃ D, iForm c k = some (k + ts.length, some (.ok D))
theorem nmF_l {ts : List (Int32 × Int64)} (h : tAt c k ts) (hN : Nms c kk) {j a : Nat} (hj : j < ts.length) (ha : a < kk) (e : ts.getD j (53, 0) = (51, wl a)) : ∃ D, nmF c (k + j) = .ok D := by
  obtain ⟨D, hD⟩ := hN.1 a ha
  exact ⟨D, nmF_ok (by rw [(h j hj).2, e]; exact hD)⟩
def hdT (kk : Nat) : List Int32 := tLet ++ (gLa kk ++ tAs)
def hdK (kk : Nat) : List (Int32 × Int64) := [(1, 7103860), (51, wl kk), (38, 0)]
theorem pc_hd (h : kk < 10) : Pc (hdT kk) (hdK kk) := pc_Let.app ((pc_gLa h).app pc_As)
theorem pc_isl (h : a < 10) : Pc (tIs ++ gLs a) [(15, 26995), (51, wl a), (36, 0)] := pc_Is.app (pc_gLs h)
theorem pc_isl0 (h : a < 10) : Pc (tIs ++ gLa a) [(15, 26995), (51, wl a)] := pc_Is.app (pc_gLa h)
theorem pc_bd (h : lo < 10) (h2 : hi < 10) : Pc (gOp lo ++ (tDots ++ gCl hi)) [(34, 0), (52, num lo), (50, 0), (52, num hi), (35, 0)] := (pc_gOp h).app (pc_Dots.app (pc_gCl h2))
theorem i_fr0 (hk0 : kk < 10) (ha : a < kk) : ItOK kk (hdT kk ++ (tFr0 ++ (tIs ++ gLs a))) := by
  refine ⟨hdK kk ++ ([(5, 7237492)] ++ [(15, 26995), (51, wl a), (36, 0)]), (pc_hd hk0).app (pc_Fr0.app (pc_isl (by omega))), Nat.le_of_ble_eq_true rfl, Nat.le_of_ble_eq_true rfl, rfl, rfl, fun c k h hk hN => ?_⟩
  have q0 : c.1 (k + 0) = 1 := (h 0 (Nat.le_of_ble_eq_true rfl)).1
  have q1 : c.1 (k + 1) = 51 := (h 1 (Nat.le_of_ble_eq_true rfl)).1
  have q2 : c.1 (k + 2) = 38 := (h 2 (Nat.le_of_ble_eq_true rfl)).1
  have q3 : c.1 (k + 3) = 5 := (h 3 (Nat.le_of_ble_eq_true rfl)).1
  have q4 : c.1 (k + 4) = 15 := (h 4 (Nat.le_of_ble_eq_true rfl)).1
  have q5 : c.1 (k + 5) = 51 := (h 5 (Nat.le_of_ble_eq_true rfl)).1
  have q6 : c.1 (k + 6) = 36 := (h 6 (Nat.le_of_ble_eq_true rfl)).1
  obtain ⟨D1, hD⟩ := nmF_l h hN (j := 5) (Nat.le_of_ble_eq_true rfl) ha rfl
  have f1 : spX c 695 3 1 (k + 4) = some (k + 6, some (.ok D1)) := by rw [← hD]; exact g_is (d := 694) (k := k + 4) q4 q5 (by omega)
  have f2 : spX c 696 3 0 (k + 3) = some (k + 6, some (.ok _)) := g_pre (k := k + 3) (Or.inl q3) (by omega) (by decide) f1
  exact ⟨_, it_let (k1 := k + 6) q0 q1 q2 (by omega) (climb (d := 696) f2 (Or.inl q6)) q6 (by omega)⟩
theorem i_fr1 (hk0 : kk < 10) (ha : a < kk) : ItOK kk (hdT kk ++ (tFr1 ++ (tIs ++ gLs a))) := by
  refine ⟨hdK kk ++ ([(6, 1886545270)] ++ [(15, 26995), (51, wl a), (36, 0)]), (pc_hd hk0).app (pc_Fr1.app (pc_isl (by omega))), Nat.le_of_ble_eq_true rfl, Nat.le_of_ble_eq_true rfl, rfl, rfl, fun c k h hk hN => ?_⟩
  have q0 : c.1 (k + 0) = 1 := (h 0 (Nat.le_of_ble_eq_true rfl)).1
  have q1 : c.1 (k + 1) = 51 := (h 1 (Nat.le_of_ble_eq_true rfl)).1
  have q2 : c.1 (k + 2) = 38 := (h 2 (Nat.le_of_ble_eq_true rfl)).1
  have q3 : c.1 (k + 3) = 6 := (h 3 (Nat.le_of_ble_eq_true rfl)).1
  have q4 : c.1 (k + 4) = 15 := (h 4 (Nat.le_of_ble_eq_true rfl)).1
  have q5 : c.1 (k + 5) = 51 := (h 5 (Nat.le_of_ble_eq_true rfl)).1
  have q6 : c.1 (k + 6) = 36 := (h 6 (Nat.le_of_ble_eq_true rfl)).1
  obtain ⟨D1, hD⟩ := nmF_l h hN (j := 5) (Nat.le_of_ble_eq_true rfl) ha rfl
  have f1 : spX c 695 3 1 (k + 4) = some (k + 6, some (.ok D1)) := by rw [← hD]; exact g_is (d := 694) (k := k + 4) q4 q5 (by omega)
  have f2 : spX c 696 3 0 (k + 3) = some (k + 6, some (.ok _)) := g_pre (k := k + 3) (Or.inr (Or.inl q3)) (by omega) (by decide) f1
  exact ⟨_, it_let (k1 := k + 6) q0 q1 q2 (by omega) (climb (d := 696) f2 (Or.inl q6)) q6 (by omega)⟩
theorem i_fr2 (hk0 : kk < 10) (ha : a < kk) : ItOK kk (hdT kk ++ (tFr2 ++ (tIs ++ gLs a))) := by
  refine ⟨hdK kk ++ ([(7, 1919513445)] ++ [(15, 26995), (51, wl a), (36, 0)]), (pc_hd hk0).app (pc_Fr2.app (pc_isl (by omega))), Nat.le_of_ble_eq_true rfl, Nat.le_of_ble_eq_true rfl, rfl, rfl, fun c k h hk hN => ?_⟩
  have q0 : c.1 (k + 0) = 1 := (h 0 (Nat.le_of_ble_eq_true rfl)).1
  have q1 : c.1 (k + 1) = 51 := (h 1 (Nat.le_of_ble_eq_true rfl)).1
  have q2 : c.1 (k + 2) = 38 := (h 2 (Nat.le_of_ble_eq_true rfl)).1
  have q3 : c.1 (k + 3) = 7 := (h 3 (Nat.le_of_ble_eq_true rfl)).1
  have q4 : c.1 (k + 4) = 15 := (h 4 (Nat.le_of_ble_eq_true rfl)).1
  have q5 : c.1 (k + 5) = 51 := (h 5 (Nat.le_of_ble_eq_true rfl)).1
  have q6 : c.1 (k + 6) = 36 := (h 6 (Nat.le_of_ble_eq_true rfl)).1
  obtain ⟨D1, hD⟩ := nmF_l h hN (j := 5) (Nat.le_of_ble_eq_true rfl) ha rfl
  have f1 : spX c 695 3 1 (k + 4) = some (k + 6, some (.ok D1)) := by rw [← hD]; exact g_is (d := 694) (k := k + 4) q4 q5 (by omega)
  have f2 : spX c 696 3 0 (k + 3) = some (k + 6, some (.ok _)) := g_pre (k := k + 3) (Or.inr (Or.inr (Or.inl q3))) (by omega) (by decide) f1
  exact ⟨_, it_let (k1 := k + 6) q0 q1 q2 (by omega) (climb (d := 696) f2 (Or.inl q6)) q6 (by omega)⟩
theorem i_fr3 (hk0 : kk < 10) (ha : a < kk) : ItOK kk (hdT kk ++ (tFr3 ++ (tIs ++ gLs a))) := by
  refine ⟨hdK kk ++ ([(8, 1717660780)] ++ [(15, 26995), (51, wl a), (36, 0)]), (pc_hd hk0).app (pc_Fr3.app (pc_isl (by omega))), Nat.le_of_ble_eq_true rfl, Nat.le_of_ble_eq_true rfl, rfl, rfl, fun c k h hk hN => ?_⟩
  have q0 : c.1 (k + 0) = 1 := (h 0 (Nat.le_of_ble_eq_true rfl)).1
  have q1 : c.1 (k + 1) = 51 := (h 1 (Nat.le_of_ble_eq_true rfl)).1
  have q2 : c.1 (k + 2) = 38 := (h 2 (Nat.le_of_ble_eq_true rfl)).1
  have q3 : c.1 (k + 3) = 8 := (h 3 (Nat.le_of_ble_eq_true rfl)).1
  have q4 : c.1 (k + 4) = 15 := (h 4 (Nat.le_of_ble_eq_true rfl)).1
  have q5 : c.1 (k + 5) = 51 := (h 5 (Nat.le_of_ble_eq_true rfl)).1
  have q6 : c.1 (k + 6) = 36 := (h 6 (Nat.le_of_ble_eq_true rfl)).1
  obtain ⟨D1, hD⟩ := nmF_l h hN (j := 5) (Nat.le_of_ble_eq_true rfl) ha rfl
  have f1 : spX c 695 3 1 (k + 4) = some (k + 6, some (.ok D1)) := by rw [← hD]; exact g_is (d := 694) (k := k + 4) q4 q5 (by omega)
  have f2 : spX c 696 3 0 (k + 3) = some (k + 6, some (.ok _)) := g_pre (k := k + 3) (Or.inr (Or.inr (Or.inr q3))) (by omega) (by decide) f1
  exact ⟨_, it_let (k1 := k + 6) q0 q1 q2 (by omega) (climb (d := 696) f2 (Or.inl q6)) q6 (by omega)⟩
theorem i_fr4 (hk0 : kk < 10) (ha : a < kk) : ItOK kk (hdT kk ++ (tFr4 ++ (tIs ++ gLs a))) := by
  refine ⟨hdK kk ++ ([(9, 1869505381)] ++ [(15, 26995), (51, wl a), (36, 0)]), (pc_hd hk0).app (pc_Fr4.app (pc_isl (by omega))), Nat.le_of_ble_eq_true rfl, Nat.le_of_ble_eq_true rfl, rfl, rfl, fun c k h hk hN => ?_⟩
  have q0 : c.1 (k + 0) = 1 := (h 0 (Nat.le_of_ble_eq_true rfl)).1
  have q1 : c.1 (k + 1) = 51 := (h 1 (Nat.le_of_ble_eq_true rfl)).1
  have q2 : c.1 (k + 2) = 38 := (h 2 (Nat.le_of_ble_eq_true rfl)).1
  have q3 : c.1 (k + 3) = 9 := (h 3 (Nat.le_of_ble_eq_true rfl)).1
  have q4 : c.1 (k + 4) = 15 := (h 4 (Nat.le_of_ble_eq_true rfl)).1
  have q5 : c.1 (k + 5) = 51 := (h 5 (Nat.le_of_ble_eq_true rfl)).1
  have q6 : c.1 (k + 6) = 36 := (h 6 (Nat.le_of_ble_eq_true rfl)).1
  obtain ⟨D1, hD⟩ := nmF_l h hN (j := 5) (Nat.le_of_ble_eq_true rfl) ha rfl
  have f1 : spX c 695 3 1 (k + 4) = some (k + 6, some (.ok D1)) := by rw [← hD]; exact g_is (d := 694) (k := k + 4) q4 q5 (by omega)
  have f2 : spX c 696 3 0 (k + 3) = some (k + 6, some (.ok _)) := g_bf0 (k := k + 3) (Or.inl q3) (by omega) (by decide) (by rw [show c.1 (k + 3 + 1) = 15 from q4]; decide) f1
  exact ⟨_, it_let (k1 := k + 6) q0 q1 q2 (by omega) (climb (d := 696) f2 (Or.inl q6)) q6 (by omega)⟩
theorem i_fr5 (hk0 : kk < 10) (ha : a < kk) : ItOK kk (hdT kk ++ (tFr5 ++ (tIs ++ gLs a))) := by
  refine ⟨hdK kk ++ ([(10, 107118487239027)] ++ [(15, 26995), (51, wl a), (36, 0)]), (pc_hd hk0).app (pc_Fr5.app (pc_isl (by omega))), Nat.le_of_ble_eq_true rfl, Nat.le_of_ble_eq_true rfl, rfl, rfl, fun c k h hk hN => ?_⟩
  have q0 : c.1 (k + 0) = 1 := (h 0 (Nat.le_of_ble_eq_true rfl)).1
  have q1 : c.1 (k + 1) = 51 := (h 1 (Nat.le_of_ble_eq_true rfl)).1
  have q2 : c.1 (k + 2) = 38 := (h 2 (Nat.le_of_ble_eq_true rfl)).1
  have q3 : c.1 (k + 3) = 10 := (h 3 (Nat.le_of_ble_eq_true rfl)).1
  have q4 : c.1 (k + 4) = 15 := (h 4 (Nat.le_of_ble_eq_true rfl)).1
  have q5 : c.1 (k + 5) = 51 := (h 5 (Nat.le_of_ble_eq_true rfl)).1
  have q6 : c.1 (k + 6) = 36 := (h 6 (Nat.le_of_ble_eq_true rfl)).1
  obtain ⟨D1, hD⟩ := nmF_l h hN (j := 5) (Nat.le_of_ble_eq_true rfl) ha rfl
  have f1 : spX c 695 3 1 (k + 4) = some (k + 6, some (.ok D1)) := by rw [← hD]; exact g_is (d := 694) (k := k + 4) q4 q5 (by omega)
  have f2 : spX c 696 3 0 (k + 3) = some (k + 6, some (.ok _)) := g_bf0 (k := k + 3) (Or.inr q3) (by omega) (by decide) (by rw [show c.1 (k + 3 + 1) = 15 from q4]; decide) f1
  exact ⟨_, it_let (k1 := k + 6) q0 q1 q2 (by omega) (climb (d := 696) f2 (Or.inl q6)) q6 (by omega)⟩
theorem i_fb4 (hk0 : kk < 10) (ha : a < kk) (hl : lo ≤ hi) (hh : hi < 10) : ItOK kk (hdT kk ++ (tFr4 ++ ((gOp lo ++ (tDots ++ gCl hi)) ++ (tIs ++ gLs a)))) := by
  refine ⟨hdK kk ++ ([(9, 1869505381)] ++ ([(34, 0), (52, num lo), (50, 0), (52, num hi), (35, 0)] ++ [(15, 26995), (51, wl a), (36, 0)])), (pc_hd hk0).app (pc_Fr4.app ((pc_bd (by omega) hh).app (pc_isl (by omega)))), Nat.le_of_ble_eq_true rfl, Nat.le_of_ble_eq_true rfl, rfl, rfl, fun c k h hk hN => ?_⟩
  have q0 : c.1 (k + 0) = 1 := (h 0 (Nat.le_of_ble_eq_true rfl)).1
  have q1 : c.1 (k + 1) = 51 := (h 1 (Nat.le_of_ble_eq_true rfl)).1
  have q2 : c.1 (k + 2) = 38 := (h 2 (Nat.le_of_ble_eq_true rfl)).1
  have q3 : c.1 (k + 3) = 9 := (h 3 (Nat.le_of_ble_eq_true rfl)).1
  have q4 : c.1 (k + 4) = 34 := (h 4 (Nat.le_of_ble_eq_true rfl)).1
  have q5 : c.1 (k + 5) = 52 := (h 5 (Nat.le_of_ble_eq_true rfl)).1
  have q6 : c.1 (k + 6) = 50 := (h 6 (Nat.le_of_ble_eq_true rfl)).1
  have q7 : c.1 (k + 7) = 52 := (h 7 (Nat.le_of_ble_eq_true rfl)).1
  have q8 : c.1 (k + 8) = 35 := (h 8 (Nat.le_of_ble_eq_true rfl)).1
  have q9 : c.1 (k + 9) = 15 := (h 9 (Nat.le_of_ble_eq_true rfl)).1
  have q10 : c.1 (k + 10) = 51 := (h 10 (Nat.le_of_ble_eq_true rfl)).1
  have q11 : c.1 (k + 11) = 36 := (h 11 (Nat.le_of_ble_eq_true rfl)).1
  have n5 : c.2.2.1 (k + 5) = num lo := (h 5 (Nat.le_of_ble_eq_true rfl)).2
  have n7 : c.2.2.1 (k + 7) = num hi := (h 7 (Nat.le_of_ble_eq_true rfl)).2
  obtain ⟨D1, hD⟩ := nmF_l h hN (j := 10) (Nat.le_of_ble_eq_true rfl) ha rfl
  have f1 : spX c 695 3 1 (k + 9) = some (k + 11, some (.ok D1)) := by rw [← hD]; exact g_is (d := 694) (k := k + 9) q9 q10 (by omega)
  have f2 := g_bf1 (k := k + 3) (D := 0) (Or.inl q3) (by decide) q4 q5 q6 q7 q8 (by omega) f1
  rw [bdM_ok n5 n7 hl hh] at f2
  exact ⟨_, it_let (k1 := k + 11) q0 q1 q2 (by omega) (climb (d := 696) f2 (Or.inl q11)) q11 (by omega)⟩
theorem i_fb5 (hk0 : kk < 10) (ha : a < kk) (hl : lo ≤ hi) (hh : hi < 10) : ItOK kk (hdT kk ++ (tFr5 ++ ((gOp lo ++ (tDots ++ gCl hi)) ++ (tIs ++ gLs a)))) := by
  refine ⟨hdK kk ++ ([(10, 107118487239027)] ++ ([(34, 0), (52, num lo), (50, 0), (52, num hi), (35, 0)] ++ [(15, 26995), (51, wl a), (36, 0)])), (pc_hd hk0).app (pc_Fr5.app ((pc_bd (by omega) hh).app (pc_isl (by omega)))), Nat.le_of_ble_eq_true rfl, Nat.le_of_ble_eq_true rfl, rfl, rfl, fun c k h hk hN => ?_⟩
  have q0 : c.1 (k + 0) = 1 := (h 0 (Nat.le_of_ble_eq_true rfl)).1
  have q1 : c.1 (k + 1) = 51 := (h 1 (Nat.le_of_ble_eq_true rfl)).1
  have q2 : c.1 (k + 2) = 38 := (h 2 (Nat.le_of_ble_eq_true rfl)).1
  have q3 : c.1 (k + 3) = 10 := (h 3 (Nat.le_of_ble_eq_true rfl)).1
  have q4 : c.1 (k + 4) = 34 := (h 4 (Nat.le_of_ble_eq_true rfl)).1
  have q5 : c.1 (k + 5) = 52 := (h 5 (Nat.le_of_ble_eq_true rfl)).1
  have q6 : c.1 (k + 6) = 50 := (h 6 (Nat.le_of_ble_eq_true rfl)).1
  have q7 : c.1 (k + 7) = 52 := (h 7 (Nat.le_of_ble_eq_true rfl)).1
  have q8 : c.1 (k + 8) = 35 := (h 8 (Nat.le_of_ble_eq_true rfl)).1
  have q9 : c.1 (k + 9) = 15 := (h 9 (Nat.le_of_ble_eq_true rfl)).1
  have q10 : c.1 (k + 10) = 51 := (h 10 (Nat.le_of_ble_eq_true rfl)).1
  have q11 : c.1 (k + 11) = 36 := (h 11 (Nat.le_of_ble_eq_true rfl)).1
  have n5 : c.2.2.1 (k + 5) = num lo := (h 5 (Nat.le_of_ble_eq_true rfl)).2
  have n7 : c.2.2.1 (k + 7) = num hi := (h 7 (Nat.le_of_ble_eq_true rfl)).2
  obtain ⟨D1, hD⟩ := nmF_l h hN (j := 10) (Nat.le_of_ble_eq_true rfl) ha rfl
  have f1 : spX c 695 3 1 (k + 9) = some (k + 11, some (.ok D1)) := by rw [← hD]; exact g_is (d := 694) (k := k + 9) q9 q10 (by omega)
  have f2 := g_bf1 (k := k + 3) (D := 0) (Or.inr q3) (by decide) q4 q5 q6 q7 q8 (by omega) f1
  rw [bdM_ok n5 n7 hl hh] at f2
  exact ⟨_, it_let (k1 := k + 11) q0 q1 q2 (by omega) (climb (d := 696) f2 (Or.inl q11)) q11 (by omega)⟩
theorem i_mi0 (hk0 : kk < 10) (ha : a < kk) (hb : b < kk) : ItOK kk (hdT kk ++ ((tIs ++ gLa a) ++ (tMi0 ++ (tIs ++ gLs b)))) := by
  refine ⟨hdK kk ++ ([(15, 26995), (51, wl a)] ++ ([(11, 495690081125)] ++ [(15, 26995), (51, wl b), (36, 0)])), (pc_hd hk0).app ((pc_isl0 (by omega)).app (pc_Mi0.app (pc_isl (by omega)))), Nat.le_of_ble_eq_true rfl, Nat.le_of_ble_eq_true rfl, rfl, rfl, fun c k h hk hN => ?_⟩
  have q0 : c.1 (k + 0) = 1 := (h 0 (Nat.le_of_ble_eq_true rfl)).1
  have q1 : c.1 (k + 1) = 51 := (h 1 (Nat.le_of_ble_eq_true rfl)).1
  have q2 : c.1 (k + 2) = 38 := (h 2 (Nat.le_of_ble_eq_true rfl)).1
  have q3 : c.1 (k + 3) = 15 := (h 3 (Nat.le_of_ble_eq_true rfl)).1
  have q4 : c.1 (k + 4) = 51 := (h 4 (Nat.le_of_ble_eq_true rfl)).1
  have q5 : c.1 (k + 5) = 11 := (h 5 (Nat.le_of_ble_eq_true rfl)).1
  have q6 : c.1 (k + 6) = 15 := (h 6 (Nat.le_of_ble_eq_true rfl)).1
  have q7 : c.1 (k + 7) = 51 := (h 7 (Nat.le_of_ble_eq_true rfl)).1
  have q8 : c.1 (k + 8) = 36 := (h 8 (Nat.le_of_ble_eq_true rfl)).1
  obtain ⟨D1, hD1⟩ := nmF_l h hN (j := 4) (Nat.le_of_ble_eq_true rfl) ha rfl
  obtain ⟨D2, hD2⟩ := nmF_l h hN (j := 7) (Nat.le_of_ble_eq_true rfl) hb rfl
  have f1 : ∀ d, spX c (d + 1) 3 0 (k + 3) = some (k + 5, some (.ok D1)) := fun d => by rw [← hD1]; exact g_is (k := k + 3) q3 q4 (by omega)
  have f2 : ∀ d, spX c (d + 1) 3 0 (k + 6) = some (k + 8, some (.ok D2)) := fun d => by rw [← hD2]; exact g_is (k := k + 6) q6 q7 (by omega)
  have f3 : spX c 697 2 0 (k + 3) = some (k + 8, some (.ok _)) := g_since0 (f1 695) q5 (by omega) (by rw [show c.1 (k + 5 + 1) = 15 from q6]; decide) (f2 695)
  exact ⟨_, it_let (k1 := k + 8) q0 q1 q2 (by omega) (climb2 (d := 697) f3 (Or.inl q8)) q8 (by omega)⟩
theorem i_mi1 (hk0 : kk < 10) (ha : a < kk) (hb : b < kk) : ItOK kk (hdT kk ++ ((tIs ++ gLa a) ++ (tMi1 ++ (tIs ++ gLs b)))) := by
  refine ⟨hdK kk ++ ([(15, 26995), (51, wl a)] ++ ([(12, 6385252)] ++ [(15, 26995), (51, wl b), (36, 0)])), (pc_hd hk0).app ((pc_isl0 (by omega)).app (pc_Mi1.app (pc_isl (by omega)))), Nat.le_of_ble_eq_true rfl, Nat.le_of_ble_eq_true rfl, rfl, rfl, fun c k h hk hN => ?_⟩
  have q0 : c.1 (k + 0) = 1 := (h 0 (Nat.le_of_ble_eq_true rfl)).1
  have q1 : c.1 (k + 1) = 51 := (h 1 (Nat.le_of_ble_eq_true rfl)).1
  have q2 : c.1 (k + 2) = 38 := (h 2 (Nat.le_of_ble_eq_true rfl)).1
  have q3 : c.1 (k + 3) = 15 := (h 3 (Nat.le_of_ble_eq_true rfl)).1
  have q4 : c.1 (k + 4) = 51 := (h 4 (Nat.le_of_ble_eq_true rfl)).1
  have q5 : c.1 (k + 5) = 12 := (h 5 (Nat.le_of_ble_eq_true rfl)).1
  have q6 : c.1 (k + 6) = 15 := (h 6 (Nat.le_of_ble_eq_true rfl)).1
  have q7 : c.1 (k + 7) = 51 := (h 7 (Nat.le_of_ble_eq_true rfl)).1
  have q8 : c.1 (k + 8) = 36 := (h 8 (Nat.le_of_ble_eq_true rfl)).1
  obtain ⟨D1, hD1⟩ := nmF_l h hN (j := 4) (Nat.le_of_ble_eq_true rfl) ha rfl
  obtain ⟨D2, hD2⟩ := nmF_l h hN (j := 7) (Nat.le_of_ble_eq_true rfl) hb rfl
  have f1 : ∀ d, spX c (d + 1) 3 0 (k + 3) = some (k + 5, some (.ok D1)) := fun d => by rw [← hD1]; exact g_is (k := k + 3) q3 q4 (by omega)
  have f2 : ∀ d, spX c (d + 1) 3 0 (k + 6) = some (k + 8, some (.ok D2)) := fun d => by rw [← hD2]; exact g_is (k := k + 6) q6 q7 (by omega)
  have f3 : spX c 698 8 0 (k + 3) = some (k + 8, some (.ok _)) := g_and (cl_2 (f1 695) (by rw [q5]; decide)) q5 (by omega) (cl_2 (f2 695) (by rw [q8]; decide)) (by rw [q8]; decide)
  exact ⟨_, it_let (k1 := k + 8) q0 q1 q2 (by omega) (cl_0 (cl_1 f3 (by rw [q8]; decide)) (by rw [q8]; decide)) q8 (by omega)⟩
theorem i_mi2 (hk0 : kk < 10) (ha : a < kk) (hb : b < kk) : ItOK kk (hdT kk ++ ((tIs ++ gLa a) ++ (tMi2 ++ (tIs ++ gLs b)))) := by
  refine ⟨hdK kk ++ ([(15, 26995), (51, wl a)] ++ ([(13, 28530)] ++ [(15, 26995), (51, wl b), (36, 0)])), (pc_hd hk0).app ((pc_isl0 (by omega)).app (pc_Mi2.app (pc_isl (by omega)))), Nat.le_of_ble_eq_true rfl, Nat.le_of_ble_eq_true rfl, rfl, rfl, fun c k h hk hN => ?_⟩
  have q0 : c.1 (k + 0) = 1 := (h 0 (Nat.le_of_ble_eq_true rfl)).1
  have q1 : c.1 (k + 1) = 51 := (h 1 (Nat.le_of_ble_eq_true rfl)).1
  have q2 : c.1 (k + 2) = 38 := (h 2 (Nat.le_of_ble_eq_true rfl)).1
  have q3 : c.1 (k + 3) = 15 := (h 3 (Nat.le_of_ble_eq_true rfl)).1
  have q4 : c.1 (k + 4) = 51 := (h 4 (Nat.le_of_ble_eq_true rfl)).1
  have q5 : c.1 (k + 5) = 13 := (h 5 (Nat.le_of_ble_eq_true rfl)).1
  have q6 : c.1 (k + 6) = 15 := (h 6 (Nat.le_of_ble_eq_true rfl)).1
  have q7 : c.1 (k + 7) = 51 := (h 7 (Nat.le_of_ble_eq_true rfl)).1
  have q8 : c.1 (k + 8) = 36 := (h 8 (Nat.le_of_ble_eq_true rfl)).1
  obtain ⟨D1, hD1⟩ := nmF_l h hN (j := 4) (Nat.le_of_ble_eq_true rfl) ha rfl
  obtain ⟨D2, hD2⟩ := nmF_l h hN (j := 7) (Nat.le_of_ble_eq_true rfl) hb rfl
  have f1 : ∀ d, spX c (d + 1) 3 0 (k + 3) = some (k + 5, some (.ok D1)) := fun d => by rw [← hD1]; exact g_is (k := k + 3) q3 q4 (by omega)
  have f2 : ∀ d, spX c (d + 1) 3 0 (k + 6) = some (k + 8, some (.ok D2)) := fun d => by rw [← hD2]; exact g_is (k := k + 6) q6 q7 (by omega)
  have f3 : spX c 699 1 0 (k + 3) = some (k + 8, some (.ok _)) := g_or (cl_8 (cl_2 (f1 695) (by rw [q5]; decide)) (by rw [q5]; decide)) q5 (by omega) (cl_8 (cl_2 (f2 695) (by rw [q8]; decide)) (by rw [q8]; decide)) (by rw [q8]; decide)
  exact ⟨_, it_let (k1 := k + 8) q0 q1 q2 (by omega) (cl_0 f3 (by rw [q8]; decide)) q8 (by omega)⟩
theorem i_mi3 (hk0 : kk < 10) (ha : a < kk) (hb : b < kk) : ItOK kk (hdT kk ++ ((tIs ++ gLa a) ++ (tMi3 ++ (tIs ++ gLs b)))) := by
  refine ⟨hdK kk ++ ([(15, 26995), (51, wl a)] ++ ([(14, 29675202177230195)] ++ [(15, 26995), (51, wl b), (36, 0)])), (pc_hd hk0).app ((pc_isl0 (by omega)).app (pc_Mi3.app (pc_isl (by omega)))), Nat.le_of_ble_eq_true rfl, Nat.le_of_ble_eq_true rfl, rfl, rfl, fun c k h hk hN => ?_⟩
  have q0 : c.1 (k + 0) = 1 := (h 0 (Nat.le_of_ble_eq_true rfl)).1
  have q1 : c.1 (k + 1) = 51 := (h 1 (Nat.le_of_ble_eq_true rfl)).1
  have q2 : c.1 (k + 2) = 38 := (h 2 (Nat.le_of_ble_eq_true rfl)).1
  have q3 : c.1 (k + 3) = 15 := (h 3 (Nat.le_of_ble_eq_true rfl)).1
  have q4 : c.1 (k + 4) = 51 := (h 4 (Nat.le_of_ble_eq_true rfl)).1
  have q5 : c.1 (k + 5) = 14 := (h 5 (Nat.le_of_ble_eq_true rfl)).1
  have q6 : c.1 (k + 6) = 15 := (h 6 (Nat.le_of_ble_eq_true rfl)).1
  have q7 : c.1 (k + 7) = 51 := (h 7 (Nat.le_of_ble_eq_true rfl)).1
  have q8 : c.1 (k + 8) = 36 := (h 8 (Nat.le_of_ble_eq_true rfl)).1
  obtain ⟨D1, hD1⟩ := nmF_l h hN (j := 4) (Nat.le_of_ble_eq_true rfl) ha rfl
  obtain ⟨D2, hD2⟩ := nmF_l h hN (j := 7) (Nat.le_of_ble_eq_true rfl) hb rfl
  have f1 : ∀ d, spX c (d + 1) 3 0 (k + 3) = some (k + 5, some (.ok D1)) := fun d => by rw [← hD1]; exact g_is (k := k + 3) q3 q4 (by omega)
  have f2 : ∀ d, spX c (d + 1) 3 0 (k + 6) = some (k + 8, some (.ok D2)) := fun d => by rw [← hD2]; exact g_is (k := k + 6) q6 q7 (by omega)
  have f3 : spX c 700 0 0 (k + 3) = some (k + 8, some (.ok _)) := g_imp (cl_1 (cl_8 (cl_2 (f1 695) (by rw [q5]; decide)) (by rw [q5]; decide)) (by rw [q5]; decide)) q5 (by omega) (climb (d := 695) (f2 694) (Or.inl q8))
  exact ⟨_, it_let (k1 := k + 8) q0 q1 q2 (by omega) f3 q8 (by omega)⟩
theorem i_mb (hk0 : kk < 10) (ha : a < kk) (hb : b < kk) (hl : lo ≤ hi) (hh : hi < 10) : ItOK kk (hdT kk ++ ((tIs ++ gLa a) ++ (tMi0 ++ ((gOp lo ++ (tDots ++ gCl hi)) ++ (tIs ++ gLs b))))) := by
  refine ⟨hdK kk ++ ([(15, 26995), (51, wl a)] ++ ([(11, 495690081125)] ++ ([(34, 0), (52, num lo), (50, 0), (52, num hi), (35, 0)] ++ [(15, 26995), (51, wl b), (36, 0)]))), (pc_hd hk0).app ((pc_isl0 (by omega)).app (pc_Mi0.app ((pc_bd (by omega) hh).app (pc_isl (by omega))))), Nat.le_of_ble_eq_true rfl, Nat.le_of_ble_eq_true rfl, rfl, rfl, fun c k h hk hN => ?_⟩
  have q0 : c.1 (k + 0) = 1 := (h 0 (Nat.le_of_ble_eq_true rfl)).1
  have q1 : c.1 (k + 1) = 51 := (h 1 (Nat.le_of_ble_eq_true rfl)).1
  have q2 : c.1 (k + 2) = 38 := (h 2 (Nat.le_of_ble_eq_true rfl)).1
  have q3 : c.1 (k + 3) = 15 := (h 3 (Nat.le_of_ble_eq_true rfl)).1
  have q4 : c.1 (k + 4) = 51 := (h 4 (Nat.le_of_ble_eq_true rfl)).1
  have q5 : c.1 (k + 5) = 11 := (h 5 (Nat.le_of_ble_eq_true rfl)).1
  have q6 : c.1 (k + 6) = 34 := (h 6 (Nat.le_of_ble_eq_true rfl)).1
  have q7 : c.1 (k + 7) = 52 := (h 7 (Nat.le_of_ble_eq_true rfl)).1
  have q8 : c.1 (k + 8) = 50 := (h 8 (Nat.le_of_ble_eq_true rfl)).1
  have q9 : c.1 (k + 9) = 52 := (h 9 (Nat.le_of_ble_eq_true rfl)).1
  have q10 : c.1 (k + 10) = 35 := (h 10 (Nat.le_of_ble_eq_true rfl)).1
  have q11 : c.1 (k + 11) = 15 := (h 11 (Nat.le_of_ble_eq_true rfl)).1
  have q12 : c.1 (k + 12) = 51 := (h 12 (Nat.le_of_ble_eq_true rfl)).1
  have q13 : c.1 (k + 13) = 36 := (h 13 (Nat.le_of_ble_eq_true rfl)).1
  have n7 : c.2.2.1 (k + 7) = num lo := (h 7 (Nat.le_of_ble_eq_true rfl)).2
  have n9 : c.2.2.1 (k + 9) = num hi := (h 9 (Nat.le_of_ble_eq_true rfl)).2
  obtain ⟨D1, hD1⟩ := nmF_l h hN (j := 4) (Nat.le_of_ble_eq_true rfl) ha rfl
  obtain ⟨D2, hD2⟩ := nmF_l h hN (j := 12) (Nat.le_of_ble_eq_true rfl) hb rfl
  have f1 : spX c 696 3 0 (k + 3) = some (k + 5, some (.ok D1)) := by rw [← hD1]; exact g_is (d := 695) (k := k + 3) q3 q4 (by omega)
  have f2 : spX c 696 3 0 (k + 11) = some (k + 13, some (.ok D2)) := by rw [← hD2]; exact g_is (d := 695) (k := k + 11) q11 q12 (by omega)
  have f3 := g_since1 (k1 := k + 5) f1 q5 q6 q7 q8 q9 q10 (by omega) f2
  rw [bdM_ok n7 n9 hl hh] at f3
  exact ⟨_, it_let (k1 := k + 13) q0 q1 q2 (by omega) (climb2 (d := 697) f3 (Or.inl q13)) q13 (by omega)⟩
theorem i_at0 (hk0 : kk < 10) : ItOK kk (hdT kk ++ tAt0) := by
  refine ⟨hdK kk ++ kAt0, (pc_hd hk0).app pc_At0, Nat.le_of_ble_eq_true rfl, Nat.le_of_ble_eq_true rfl, rfl, rfl, fun c k h hk hN => ?_⟩
  have q0 : c.1 (k + 0) = 1 := (h 0 (Nat.le_of_ble_eq_true rfl)).1
  have q1 : c.1 (k + 1) = 51 := (h 1 (Nat.le_of_ble_eq_true rfl)).1
  have q2 : c.1 (k + 2) = 38 := (h 2 (Nat.le_of_ble_eq_true rfl)).1
  have q3 : c.1 (k + 3) = 51 := (h 3 (Nat.le_of_ble_eq_true rfl)).1
  have q4 : c.1 (k + 4) = 47 := (h 4 (Nat.le_of_ble_eq_true rfl)).1
  have q5 : c.1 (k + 5) = 51 := (h 5 (Nat.le_of_ble_eq_true rfl)).1
  have q6 : c.1 (k + 6) = 36 := (h 6 (Nat.le_of_ble_eq_true rfl)).1
  obtain ⟨D3, hD3⟩ := hN.2.1
  have v3 : nmV' c (k + 3) = .ok (dVal 21 0 0 zV zV zV) := nmV_ok (by rw [(h 3 (Nat.le_of_ble_eq_true rfl)).2]; exact hD3)
  obtain ⟨D5, hD5⟩ := hN.2.2
  have v5 : nmV' c (k + 5) = .ok (dVal 21 1 0 zV zV zV) := nmV_ok (by rw [(h 5 (Nat.le_of_ble_eq_true rfl)).2]; exact hD5)
  have f1 : spX c 695 4 0 (k + 3) = some (k + 4, some (.ok (dVal 21 0 0 zV zV zV))) := by
    rw [← v3]; exact g_at4 (d := 692) (k1 := k + 4) (g_name (k := k + 3) q3 (by omega)) (by rw [q4]; decide)
  have f2 : spX c 695 4 0 (k + 5) = some (k + 6, some (.ok (dVal 21 1 0 zV zV zV))) := by
    rw [← v5]; exact g_at4 (d := 692) (k1 := k + 6) (g_name (k := k + 5) q5 (by omega)) (by rw [q6]; decide)
  have f3 : spX c 696 3 0 (k + 3) = some (k + 6, some (.ok _)) := g_cmp (k1 := k + 4) q3 f1 (by rw [q4]; decide) (by omega) f2
  exact ⟨_, it_let (k1 := k + 6) q0 q1 q2 (by omega) (climb (d := 696) f3 (Or.inl q6)) q6 (by omega)⟩
theorem i_at1 (hk0 : kk < 10) : ItOK kk (hdT kk ++ tAt1) := by
  refine ⟨hdK kk ++ kAt1, (pc_hd hk0).app pc_At1, Nat.le_of_ble_eq_true rfl, Nat.le_of_ble_eq_true rfl, rfl, rfl, fun c k h hk hN => ?_⟩
  have q0 : c.1 (k + 0) = 1 := (h 0 (Nat.le_of_ble_eq_true rfl)).1
  have q1 : c.1 (k + 1) = 51 := (h 1 (Nat.le_of_ble_eq_true rfl)).1
  have q2 : c.1 (k + 2) = 38 := (h 2 (Nat.le_of_ble_eq_true rfl)).1
  have q3 : c.1 (k + 3) = 51 := (h 3 (Nat.le_of_ble_eq_true rfl)).1
  have q4 : c.1 (k + 4) = 44 := (h 4 (Nat.le_of_ble_eq_true rfl)).1
  have q5 : c.1 (k + 5) = 52 := (h 5 (Nat.le_of_ble_eq_true rfl)).1
  have q6 : c.1 (k + 6) = 36 := (h 6 (Nat.le_of_ble_eq_true rfl)).1
  obtain ⟨D3, hD3⟩ := hN.2.1
  have v3 : nmV' c (k + 3) = .ok (dVal 21 0 0 zV zV zV) := nmV_ok (by rw [(h 3 (Nat.le_of_ble_eq_true rfl)).2]; exact hD3)
  have f1 : spX c 695 4 0 (k + 3) = some (k + 4, some (.ok (dVal 21 0 0 zV zV zV))) := by
    rw [← v3]; exact g_at4 (d := 692) (k1 := k + 4) (g_name (k := k + 3) q3 (by omega)) (by rw [q4]; decide)
  have f2 : spX c 695 4 0 (k + 5) = some (k + 6, some (.ok (dVal 20 (nb c (k + 5)) 0 zV zV zV))) := g_at4 (d := 692) (k1 := k + 6) (g_num (k := k + 5) q5 (by omega)) (by rw [q6]; decide)
  have f3 : spX c 696 3 0 (k + 3) = some (k + 6, some (.ok _)) := g_cmp (k1 := k + 4) q3 f1 (by rw [q4]; decide) (by omega) f2
  exact ⟨_, it_let (k1 := k + 6) q0 q1 q2 (by omega) (climb (d := 696) f3 (Or.inl q6)) q6 (by omega)⟩
theorem i_at2 (hk0 : kk < 10) : ItOK kk (hdT kk ++ tAt2) := by
  refine ⟨hdK kk ++ kAt2, (pc_hd hk0).app pc_At2, Nat.le_of_ble_eq_true rfl, Nat.le_of_ble_eq_true rfl, rfl, rfl, fun c k h hk hN => ?_⟩
  have q0 : c.1 (k + 0) = 1 := (h 0 (Nat.le_of_ble_eq_true rfl)).1
  have q1 : c.1 (k + 1) = 51 := (h 1 (Nat.le_of_ble_eq_true rfl)).1
  have q2 : c.1 (k + 2) = 38 := (h 2 (Nat.le_of_ble_eq_true rfl)).1
  have q3 : c.1 (k + 3) = 51 := (h 3 (Nat.le_of_ble_eq_true rfl)).1
  have q4 : c.1 (k + 4) = 48 := (h 4 (Nat.le_of_ble_eq_true rfl)).1
  have q5 : c.1 (k + 5) = 52 := (h 5 (Nat.le_of_ble_eq_true rfl)).1
  have q6 : c.1 (k + 6) = 36 := (h 6 (Nat.le_of_ble_eq_true rfl)).1
  obtain ⟨D3, hD3⟩ := hN.2.2
  have v3 : nmV' c (k + 3) = .ok (dVal 21 1 0 zV zV zV) := nmV_ok (by rw [(h 3 (Nat.le_of_ble_eq_true rfl)).2]; exact hD3)
  have f1 : spX c 695 4 0 (k + 3) = some (k + 4, some (.ok (dVal 21 1 0 zV zV zV))) := by
    rw [← v3]; exact g_at4 (d := 692) (k1 := k + 4) (g_name (k := k + 3) q3 (by omega)) (by rw [q4]; decide)
  have f2 : spX c 695 4 0 (k + 5) = some (k + 6, some (.ok (dVal 20 (nb c (k + 5)) 0 zV zV zV))) := g_at4 (d := 692) (k1 := k + 6) (g_num (k := k + 5) q5 (by omega)) (by rw [q6]; decide)
  have f3 : spX c 696 3 0 (k + 3) = some (k + 6, some (.ok _)) := g_cmp (k1 := k + 4) q3 f1 (by rw [q4]; decide) (by omega) f2
  exact ⟨_, it_let (k1 := k + 6) q0 q1 q2 (by omega) (climb (d := 696) f3 (Or.inl q6)) q6 (by omega)⟩
theorem i_at3 (hk0 : kk < 10) : ItOK kk (hdT kk ++ tAt3) := by
  refine ⟨hdK kk ++ kAt3, (pc_hd hk0).app pc_At3, Nat.le_of_ble_eq_true rfl, Nat.le_of_ble_eq_true rfl, rfl, rfl, fun c k h hk hN => ?_⟩
  have q0 : c.1 (k + 0) = 1 := (h 0 (Nat.le_of_ble_eq_true rfl)).1
  have q1 : c.1 (k + 1) = 51 := (h 1 (Nat.le_of_ble_eq_true rfl)).1
  have q2 : c.1 (k + 2) = 38 := (h 2 (Nat.le_of_ble_eq_true rfl)).1
  have q3 : c.1 (k + 3) = 51 := (h 3 (Nat.le_of_ble_eq_true rfl)).1
  have q4 : c.1 (k + 4) = 39 := (h 4 (Nat.le_of_ble_eq_true rfl)).1
  have q5 : c.1 (k + 5) = 51 := (h 5 (Nat.le_of_ble_eq_true rfl)).1
  have q6 : c.1 (k + 6) = 45 := (h 6 (Nat.le_of_ble_eq_true rfl)).1
  have q7 : c.1 (k + 7) = 52 := (h 7 (Nat.le_of_ble_eq_true rfl)).1
  have q8 : c.1 (k + 8) = 36 := (h 8 (Nat.le_of_ble_eq_true rfl)).1
  obtain ⟨D3, hD3⟩ := hN.2.1
  have v3 : nmV' c (k + 3) = .ok (dVal 21 0 0 zV zV zV) := nmV_ok (by rw [(h 3 (Nat.le_of_ble_eq_true rfl)).2]; exact hD3)
  obtain ⟨D5, hD5⟩ := hN.2.2
  have v5 : nmV' c (k + 5) = .ok (dVal 21 1 0 zV zV zV) := nmV_ok (by rw [(h 5 (Nat.le_of_ble_eq_true rfl)).2]; exact hD5)
  have f1 : spX c 694 5 0 (k + 3) = some (k + 4, some (.ok (dVal 21 0 0 zV zV zV))) := by
    rw [← v3]; exact g_prod (d := 693) (g_name (d := 692) (k := k + 3) q3 (by omega)) (by rw [show c.1 (k + 3 + 1) = 39 from q4]; decide)
  have f2 : spX c 694 5 0 (k + 5) = some (k + 6, some (.ok (dVal 21 1 0 zV zV zV))) := by
    rw [← v5]; exact g_prod (d := 693) (g_name (d := 692) (k := k + 5) q5 (by omega)) (by rw [show c.1 (k + 5 + 1) = 45 from q6]; decide)
  have f3 : spX c 695 4 0 (k + 3) = some (k + 6, some (.ok _)) := g_add (k1 := k + 4) f1 q4 (by omega) f2 (by rw [q6]; decide)
  have f4 : spX c 695 4 0 (k + 7) = some (k + 8, some (.ok (dVal 20 (nb c (k + 7)) 0 zV zV zV))) := g_at4 (d := 692) (k1 := k + 8) (g_num (k := k + 7) q7 (by omega)) (by rw [q8]; decide)
  have f5 : spX c 696 3 0 (k + 3) = some (k + 8, some (.ok _)) := g_cmp (k1 := k + 6) q3 f3 (by rw [q6]; decide) (by omega) f4
  exact ⟨_, it_let (k1 := k + 8) q0 q1 q2 (by omega) (climb (d := 696) f5 (Or.inl q8)) q8 (by omega)⟩
end IT
