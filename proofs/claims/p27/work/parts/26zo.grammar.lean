-- the grammar, a step at a time, over tokens that are known
section GR
variable {c : Cx} {d D k k1 k2 n X : Nat} {m a b : MV} {rc : RX} {s : Int32} {g : Den → Den → Den} {lo hi : Int}
theorem g_go {f : Nat → Option Rs} (h : k < 400) : go k f = f (k + 1) := by rw [go, if_neg (by omega)]
theorem g_ex {f : Nat → Option Rs} (h : c.1 k = s) (hk : k < 400) : ex c s k f = f (k + 1) := by rw [ex, if_pos h, g_go hk]
theorem g_rb {x : Option Rs} {f : Nat → MV → Option Rs} (h : x = some (k, some m)) : rb x f = f k m := by rw [h]; rfl
theorem u_0 : spX c (d + 1) 0 D k = pFormula c (spX c d) D k := rfl
theorem u_1 : spX c (d + 1) 1 D k = pRow1 c (spX c d) D k := rfl
theorem u_2 : spX c (d + 1) 2 D k = pSince c (spX c d) D k := rfl
theorem u_3 : spX c (d + 1) 3 D k = pOne c (spX c d) D k := rfl
theorem u_4 : spX c (d + 1) 4 D k = pExpr c (spX c d) D k := rfl
theorem u_5 : spX c (d + 1) 5 D k = pProd c (spX c d) D k := rfl
theorem u_7 : spX c (d + 1) 7 D k = pFactor c (spX c d) D k := rfl
theorem u_8 : spX c (d + 1) 8 D k = pRow8 c (spX c d) D k := rfl
theorem rowL_s : pRowL c rc X s g D (n + 1) k a = if c.1 k = s then go k fun k2 => rb (rc X D k2) fun k3 b => pRowL c rc X s g D n k3 (mo2 g a b) else some (k, some a) := rfl
theorem binL_s : pBinL c rc X lo hi D (n + 1) k a = if lo ≤ (c.1 k).toInt ∧ (c.1 k).toInt ≤ hi then go k fun k2 => rb (rc X D k2) fun k3 b => pBinL c rc X lo hi D n k3 (mo2 (dBin (c.1 k)) a b) else some (k, some a) := rfl
theorem cl_2 (h : spX c d 3 D k = some (k1, some m)) (t : c.1 k1 ≠ 11) : spX c (d + 1) 2 D k = some (k1, some m) := by rw [u_2, pSince, g_rb h, if_neg t]
theorem cl_8 (h : spX c d 2 D k = some (k1, some m)) (t : c.1 k1 ≠ 12) : spX c (d + 1) 8 D k = some (k1, some m) := by rw [u_8, pRow8, g_rb h, rowL_s (n := 399), if_neg t]
theorem cl_1 (h : spX c d 8 D k = some (k1, some m)) (t : c.1 k1 ≠ 13) : spX c (d + 1) 1 D k = some (k1, some m) := by rw [u_1, pRow1, g_rb h, rowL_s (n := 399), if_neg t]
theorem cl_0 (h : spX c d 1 D k = some (k1, some m)) (t : c.1 k1 ≠ 14) : spX c (d + 1) 0 D k = some (k1, some m) := by rw [u_0, pFormula, g_rb h, if_neg t]
/-- what ends a formula -/
def EndF (x : Int32) : Prop := x = 36 ∨ x = 33 ∨ x = 53
theorem EndF.ne {x : Int32} (h : EndF x) : x ≠ 11 ∧ x ≠ 12 ∧ x ≠ 13 ∧ x ≠ 14 := by rcases h with e | e | e <;> rw [e] <;> decide
theorem climb2 (h : spX c d 2 D k = some (k1, some m)) (t : EndF (c.1 k1)) : spX c (d + 3) 0 D k = some (k1, some m) := cl_0 (cl_1 (cl_8 h t.ne.2.1) t.ne.2.2.1) t.ne.2.2.2
theorem climb (h : spX c d 3 D k = some (k1, some m)) (t : EndF (c.1 k1)) : spX c (d + 4) 0 D k = some (k1, some m) := climb2 (cl_2 h t.ne.1) t
theorem g_since0 (ha : spX c d 3 D k = some (k1, some a)) (h11 : c.1 k1 = 11) (hk : k1 < 400) (h34 : c.1 (k1 + 1) ≠ 34) (hb : spX c d 3 D (k1 + 1) = some (k2, some b)) : spX c (d + 1) 2 D k = some (k2, some (mvS (dSince (c.2.1 k)) a (.ok (0, -1)) b)) := by rw [u_2, pSince, g_rb ha, if_pos h11, g_go hk, pBnd, if_neg h34, g_rb hb]
theorem g_bnd {f : Nat → Except En (Int32 × Int32) → Option Rs} (h34 : c.1 k = 34) (h1 : c.1 (k + 1) = 52) (h2 : c.1 (k + 2) = 50) (h3 : c.1 (k + 3) = 52) (h4 : c.1 (k + 4) = 35) (hk : k + 4 < 400) : pBnd c k f = f (k + 5) (bdM c (k + 1) (k + 3)) := by
  rw [pBnd, if_pos h34, g_go (by omega), g_ex (k := k + 1) h1 (by omega), g_ex (k := k + 1 + 1) h2 (by omega), g_ex (k := k + 1 + 1 + 1) h3 (by omega), g_ex (k := k + 1 + 1 + 1 + 1) h4 (by omega)]
theorem g_since1 (ha : spX c d 3 D k = some (k1, some a)) (h11 : c.1 k1 = 11) (h34 : c.1 (k1 + 1) = 34) (h1 : c.1 (k1 + 2) = 52) (h2 : c.1 (k1 + 3) = 50) (h3 : c.1 (k1 + 4) = 52) (h4 : c.1 (k1 + 5) = 35) (hk : k1 + 5 < 400) (hb : spX c d 3 D (k1 + 6) = some (k2, some b)) : spX c (d + 1) 2 D k = some (k2, some (mvS (dSince (c.2.1 k)) a (bdM c (k1 + 2) (k1 + 4)) b)) := by
  rw [u_2, pSince, g_rb ha, if_pos h11, g_go (by omega), g_bnd (k := k1 + 1) h34 h1 h2 h3 h4 (by omega), g_rb (show spX c d 3 D (k1 + 1 + 5) = some (k2, some b) from hb)]
theorem g_and (ha : spX c d 2 D k = some (k1, some a)) (h12 : c.1 k1 = 12) (hk : k1 < 400) (hb : spX c d 2 D (k1 + 1) = some (k2, some b)) (t : c.1 k2 ≠ 12) : spX c (d + 1) 8 D k = some (k2, some (mo2 dAnd a b)) := by rw [u_8, pRow8, g_rb ha, rowL_s (n := 399), if_pos h12, g_go hk, g_rb hb, rowL_s (n := 398), if_neg t]
theorem g_or (ha : spX c d 8 D k = some (k1, some a)) (h13 : c.1 k1 = 13) (hk : k1 < 400) (hb : spX c d 8 D (k1 + 1) = some (k2, some b)) (t : c.1 k2 ≠ 13) : spX c (d + 1) 1 D k = some (k2, some (mo2 dOr a b)) := by rw [u_1, pRow1, g_rb ha, rowL_s (n := 399), if_pos h13, g_go hk, g_rb hb, rowL_s (n := 398), if_neg t]
theorem g_imp (ha : spX c d 1 D k = some (k1, some a)) (h14 : c.1 k1 = 14) (hk : k1 < 400) (hb : spX c d 0 D (k1 + 1) = some (k2, some b)) : spX c (d + 1) 0 D k = some (k2, some (mo2 dImp a b)) := by rw [u_0, pFormula, g_rb ha, if_pos h14, g_go hk, g_rb hb]
theorem g_is (h : c.1 k = 15) (h1 : c.1 (k + 1) = 51) (hk : k + 1 < 400) : spX c (d + 1) 3 D k = some (k + 2, some (nmF c (k + 1))) := by
  rw [u_3, pOne, if_neg (by rw [h]; decide), if_neg (by rw [h]; decide), if_neg (by rw [h]; decide), if_neg (by rw [h]; decide), if_neg (by rw [h]; decide), if_pos h, g_go (by omega), g_ex h1 hk]
theorem g_pre (h : c.1 k = 5 ∨ c.1 k = 6 ∨ c.1 k = 7 ∨ c.1 k = 8) (hk : k < 400) (hD : D < 10) (ha : spX c d 3 (D + 1) (k + 1) = some (k1, some a)) : spX c (d + 1) 3 D k = some (k1, some (mvB (dFront (c.1 k) (c.2.1 k)) (.ok (0, -1)) a)) := by
  rw [u_3, pOne, if_pos h, if_neg (by omega), g_go hk, g_rb ha]
theorem g_bf0 (h : c.1 k = 9 ∨ c.1 k = 10) (hk : k < 400) (hD : D < 10) (h34 : c.1 (k + 1) ≠ 34) (ha : spX c d 3 (D + 1) (k + 1) = some (k1, some a)) : spX c (d + 1) 3 D k = some (k1, some (mvB (dFront (c.1 k) (c.2.1 k)) (.ok (0, -1)) a)) := by
  rw [u_3, pOne, if_neg (by rcases h with e | e <;> rw [e] <;> decide), if_pos h, if_neg (by omega), g_go hk, pBnd, if_neg h34, g_rb ha]
theorem g_bf1 (h : c.1 k = 9 ∨ c.1 k = 10) (hD : D < 10) (h34 : c.1 (k + 1) = 34) (h1 : c.1 (k + 2) = 52) (h2 : c.1 (k + 3) = 50) (h3 : c.1 (k + 4) = 52) (h4 : c.1 (k + 5) = 35) (hk : k + 5 < 400) (ha : spX c d 3 (D + 1) (k + 6) = some (k1, some a)) : spX c (d + 1) 3 D k = some (k1, some (mvB (dFront (c.1 k) (c.2.1 k)) (bdM c (k + 2) (k + 4)) a)) := by
  rw [u_3, pOne, if_neg (by rcases h with e | e <;> rw [e] <;> decide), if_pos h, if_neg (by omega), g_go (by omega), g_bnd (k := k + 1) h34 h1 h2 h3 h4 (by omega), g_rb (show spX c d 3 (D + 1) (k + 1 + 5) = some (k1, some a) from ha)]
theorem g_brace (h : c.1 k = 32) (hk : k < 400) (hD : D < 10) (ha : spX c d 0 (D + 1) (k + 1) = some (k1, some a)) (h33 : c.1 k1 = 33) (hk1 : k1 < 400) : spX c (d + 1) 3 D k = some (k1 + 1, some a) := by
  rw [u_3, pOne, if_neg (by rw [h]; decide), if_neg (by rw [h]; decide), if_pos h, pBraced, pBraces, if_pos h, if_neg (by omega), g_go hk, g_rb ha, g_ex h33 hk1]
theorem g_name (h : c.1 k = 51) (hk : k < 400) : spX c (d + 1) 7 D k = some (k + 1, some (nmV' c k)) := by rw [u_7, pFactor, if_neg (by rw [h]; decide), if_pos h, g_go hk]
theorem g_num (h : c.1 k = 52) (hk : k < 400) : spX c (d + 1) 7 D k = some (k + 1, some (.ok (dVal 20 (nb c k) 0 zV zV zV))) := by rw [u_7, pFactor, if_pos h, g_go hk]
theorem g_prod (h : spX c d 7 D k = some (k1, some a)) (t : ¬ (41 ≤ (c.1 k1).toInt ∧ (c.1 k1).toInt ≤ 43)) : spX c (d + 1) 5 D k = some (k1, some a) := by rw [u_5, pProd, g_rb h, binL_s (n := 399), if_neg t]
theorem g_expr (h : spX c d 5 D k = some (k1, some a)) (t : ¬ (39 ≤ (c.1 k1).toInt ∧ (c.1 k1).toInt ≤ 40)) : spX c (d + 1) 4 D k = some (k1, some a) := by rw [u_4, pExpr, g_rb h, binL_s (n := 399), if_neg t]
theorem g_add (ha : spX c d 5 D k = some (k1, some a)) (h39 : c.1 k1 = 39) (hk : k1 < 400) (hb : spX c d 5 D (k1 + 1) = some (k2, some b)) (t : ¬ (39 ≤ (c.1 k2).toInt ∧ (c.1 k2).toInt ≤ 40)) : spX c (d + 1) 4 D k = some (k2, some (mo2 (dBin (c.1 k1)) a b)) := by
  rw [u_4, pExpr, g_rb ha, binL_s (n := 399), if_pos (by rw [h39]; decide), g_go hk, g_rb hb, binL_s (n := 398), if_neg t]
theorem g_cmp (h : c.1 k = 51) (ha : spX c d 4 D k = some (k1, some a)) (hc : 44 ≤ (c.1 k1).toInt ∧ (c.1 k1).toInt ≤ 49) (hk1 : k1 < 400) (hb : spX c d 4 D (k1 + 1) = some (k2, some b)) : spX c (d + 1) 3 D k = some (k2, some (mo2 (dCmp (c.1 k1) (c.2.1 k)) a b)) := by
  rw [u_3, pOne, if_neg (by rw [h]; decide), if_neg (by rw [h]; decide), if_neg (by rw [h]; decide), if_neg (by rw [h]; decide), if_neg (by rw [h]; decide), if_neg (by rw [h]; decide), g_rb ha, if_pos hc, g_go hk1, g_rb hb]
/-- a name or a number alone, with no sign behind it -/
theorem g_at4 (h : spX c (d + 1) 7 D k = some (k1, some a)) (t : 44 ≤ (c.1 k1).toInt ∨ (c.1 k1).toInt < 39) : spX c (d + 3) 4 D k = some (k1, some a) := g_expr (g_prod h (by omega)) (by omega)
-- items
theorem it_let (h0 : c.1 k = 1) (h1 : c.1 (k + 1) = 51) (h2 : c.1 (k + 2) = 38) (hk : k + 3 < 400) (hf : spX c 700 0 0 (k + 3) = some (k1, some m)) (h36 : c.1 k1 = 36) (hk1 : k1 < 400) : iForm c k = some (k1 + 1, some m) := by
  rw [iForm, if_pos (Or.inr (Or.inl h0)), g_go (by omega), g_ex h1 (by omega), h0, show itC 1 = 38 by decide, g_ex (k := k + 1 + 1) h2 (by omega), iBody, if_neg (by decide), if_neg (by decide), if_pos rfl, g_rb hf, g_ex h36 hk1]
theorem it_watch (h0 : c.1 k = 3) (h1 : c.1 (k + 1) = 51) (h2 : c.1 (k + 2) = 37) (hk : k + 3 < 400) (hf : spX c 700 0 0 (k + 3) = some (k1, some m)) (h36 : c.1 k1 = 36) (hk1 : k1 < 400) : iForm c k = some (k1 + 1, some m) := by
  rw [iForm, if_pos (Or.inr (Or.inr (Or.inr h0))), g_go (by omega), g_ex h1 (by omega), h0, show itC 3 = 37 by decide, g_ex (k := k + 1 + 1) h2 (by omega), iBody, if_neg (by decide), if_neg (by decide), if_neg (by decide), g_rb hf, if_neg (by rw [h36]; decide), g_ex h36 hk1]
theorem it_signal (h0 : c.1 k = 0) (h1 : c.1 (k + 1) = 51) (h2 : c.1 (k + 2) = 44) (h3 : c.1 (k + 3) = 52) (h4 : c.1 (k + 4) = 36) (hk : k + 4 < 400) : iForm c k = some (k + 5, some (.ok (zV, zR))) := by
  rw [iForm, if_pos (Or.inl h0), g_go (by omega), g_ex h1 (by omega), h0, show itC 0 = 44 by decide, g_ex (k := k + 1 + 1) h2 (by omega), iBody, if_pos rfl, if_neg (by rw [show c.1 (k + 1 + 1 + 1) = 52 from h3]; decide), g_ex (k := k + 1 + 1 + 1) h3 (by omega), g_ex (k := k + 1 + 1 + 1 + 1) h4 (by omega)]
end GR
