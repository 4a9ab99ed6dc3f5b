-- what the class's calls answer in the relation, and what they leave
section WR
variable {σ : MS} {τ : CS} {kw : Nat → Int64} {len nm nc st ks km : Nat} {E : EnvN}
theorem w_item (h : RelW kw len E nm nc st ks km σ τ) {s n : Nat} (hs : s < 4) (hn : n < E.ct s) : FX10_isItem (nI s) (nI n) τ = some (1, τ) := by
  have h12 := h.2.1.1.c12 hs
  rw [FX10_isItem, gI hs (by decide), h.2.1.2.2.2.1.2.2.1 s hs, if_neg (nI_pos (by omega)), if_neg (by rw [nI_leI (by omega) (by omega)]; omega)]
theorem w_step (h : RelW kw len E nm nc st ks km σ τ) {i : Nat} (hi : i < st) : FX10_isStep (nI i) τ = some (1, τ) := by
  have h120 := h.2.2.1.1
  rw [FX10_isStep, h.2.2.1.2.2.1, if_neg (nI_pos (by omega)), if_neg (by rw [nI_leI (by omega) (by omega)]; omega)]
theorem w_reck (h : RelW kw len E nm nc st ks km σ τ) {s n i : Nat} (hs : s < 4) (h0 : s ≠ 0) (hn : n < E.ct s) (hi : i < st) : FX10_reckoned (nI s) (nI n) (nI i) τ = some ((E.dn s n).1 (hsC τ) i, τ) := cReV h.2.1 h.2.2.1 h.2.2.2.2.1 h.2.2.2.2.2.1 hs h0 hn hi
/-- whether a let holds -/
def hoL (E : EnvN) (g : Hs) (n i : Nat) : Bool := nzV ((E.dn 1 n).1 g i)
def hoH (E : EnvN) (g : Hs) (n i : Nat) : Bool := nzV ((E.dn 3 n).1 g i)
theorem w_let (h : RelW kw len E nm nc st ks km σ τ) {n i : Nat} (hn : n < E.ct 1) (hi : i < st) : FX10_let (nI n) (nI i) τ = some (.inr (bI (hoL E (hsC τ) n i)), τ) := by
  have e2 : FX10_isItem 1 (nI n) τ = some (1, τ) := w_item h (s := 1) (by decide) hn
  have e4 := w_step h hi
  have x2 : FX10_reckoned 1 (nI n) (nI i) τ = some ((E.dn 1 n).1 (hsC τ) i, τ) := w_reck h (s := 1) (by decide) (by decide) hn hi
  rw [FX10_let, e2, b2r, if_neg (by decide), e4, b2r, if_neg (by decide), x2, b2r, ifsome, nz0]
  rfl
theorem w_watch (h : RelW kw len E nm nc st ks km σ τ) {n i : Nat} (hn : n < E.ct 3) (hi : i < st) : FX10_watch (nI n) (nI i) τ = some (.inr (bI (hoH E (hsC τ) n i)), τ) := by
  have e2 : FX10_isItem 3 (nI n) τ = some (1, τ) := w_item h (s := 3) (by decide) hn
  have e4 := w_step h hi
  have x2 : FX10_reckoned 3 (nI n) (nI i) τ = some ((E.dn 3 n).1 (hsC τ) i, τ) := w_reck h (s := 3) (by decide) (by decide) hn hi
  rw [FX10_watch, e2, b2r, if_neg (by decide), e4, b2r, if_neg (by decide), x2, b2r, ifsome, nz0]
  rfl
theorem w_told1 (h : RelW kw len E nm nc st ks km σ τ) {n : Nat} (hn : n < E.ct 3) : FX10_told LF (nI n) 1 τ = some (.inr (tMi (hoW E τ n) st), τ) := by
  have e2 : FX10_isItem 3 (nI n) τ = some (1, τ) := w_item h (s := 3) (by decide) hn
  have v2 : FX10_toldOf LF (nI n) (nI 1) τ = some (tWh (E.lv n) (hoW E τ n) st (nI 1), τ) := (toldV h.2.1 h.2.2.1 h.2.2.2.2.1 h.2.2.2.2.2.1 hn (nI 1)).2
  have w1 : tWh (E.lv n) (hoW E τ n) st (nI 1) = tMi (hoW E τ n) st := by unfold tWh; rw [if_neg (by decide), if_pos (by decide)]
  show FX10_told LF (nI n) (nI 1) τ = _
  rw [FX10_told, e2, b2r, if_neg (by decide), if_neg (nI_pos (by omega)), if_pos (by rw [show (5 : Int32) = nI 5 from rfl, nI_ltI (by omega) (by omega)]; omega), v2, b2r, w1]
theorem w_count4 (h : RelW kw len E nm nc st ks km σ τ) : FX10_count 4 τ = some (.inr (nI st), τ) := by
  have e : FX10_howMany 4 τ = some (nI st, τ) := by rw [FX10_howMany, if_pos (by decide), h.2.2.1.2.2.1]
  rw [FX10_count, if_neg (by decide), if_pos (by decide), e, b2r]
theorem w_count6 (h : RelW kw len E nm nc st ks km σ τ) : FX10_count 6 τ = some (.inr (nI len), τ) := by
  have e : FX10_howMany 6 τ = some (nI len, τ) := by rw [FX10_howMany, if_neg (by decide), if_neg (by decide), if_pos (by decide), h.1.2.2.1]
  rw [FX10_count, if_neg (by decide), if_pos (by decide), e, b2r]
theorem dfW_eq {A B : Nat → Bool} : ∀ (d k : Nat), (∀ i, k ≤ i → i < k + d → A i = B i) → dfW A B d k = -1
  | 0, _, _ => rfl
  | d+1, k, h => by rw [dfW, if_pos (h k (by omega) (by omega)), dfW_eq d (k + 1) (fun i h1 h2 => h i (by omega) (by omega))]
theorem w_differ (h : RelW kw len E nm nc st ks km σ τ) {n m : Nat} (hn : n < E.ct 3) (hm : m < E.ct 3) : FX10_differ LF (nI n) (nI m) τ = some (.inr (dfW (hoW E τ n) (hoW E τ m) st 0), τ) := by
  have e2 : FX10_isItem 3 (nI n) τ = some (1, τ) := w_item h (s := 3) (by decide) hn
  have e4 : FX10_isItem 3 (nI m) τ = some (1, τ) := w_item h (s := 3) (by decide) hm
  obtain ⟨hT, hP, hH, hK, hM, hC, hA⟩ := id h
  have h120 := hH.1
  have x2 := cDif (τ := τ) (L := LF) (w := n) (w2 := m) (A := hoW E τ n) (B := hoW E τ m) (fun i hi => by
    obtain ⟨qm, qc, a1, a2, a3, a4, a5, a6⟩ := itemV (s := 3) hP hH hM hC (by decide) (by decide) hn
    obtain ⟨qm', qc', a1', a2', a3', a4', a5', a6'⟩ := itemV (s := 3) hP hH hM hC (by decide) (by decide) hm
    refine ⟨_, _, cReV (s := 3) hP hH hM hC (by decide) (by decide) hn hi, cReV (s := 3) hP hH hM hC (by decide) (by decide) hm hi, fun z => ?_, fun z => ?_⟩
    · unfold hoW; rw [z]
    · rw [← (a6 (Or.inr rfl)).1 (hsC τ) i, ← (a6' (Or.inr rfl)).1 (hsC τ) i]
      unfold hoW at z; rw [z]) hH.2.2.1 h120 st 0 5000 (by omega) (by omega)
  rw [FX10_differ, e2, b2r, if_neg (by decide), e4, b2r, if_neg (by decide)]; exact x2
theorem w_share (h : RelW kw len E nm nc st ks km σ τ) {n : Nat} (hn : n < E.ct 3) (z : st ≠ 0) : FX10_share LF (nI n) τ = some (.inr (FP.ddiv (FP.i2d (nI st - tMi (hoW E τ n) st)) (FP.i2d (nI st))), τ) ∧ ¬ (¬ ((FP.ddiv (FP.i2d (nI st - tMi (hoW E τ n) st)) (FP.i2d (nI st))) &&& 0x7fffffffffffffff ≤ 0x7ff0000000000000)) := by
  have e2 : FX10_isItem 3 (nI n) τ = some (1, τ) := w_item h (s := 3) (by decide) hn
  have h120 := h.2.2.1.1
  have v2 : FX10_toldOf LF (nI n) 1 τ = some (tWh (E.lv n) (hoW E τ n) st 1, τ) := (toldV h.2.1 h.2.2.1 h.2.2.2.2.1 h.2.2.2.2.2.1 hn 1).2
  have w1 : tWh (E.lv n) (hoW E τ n) st 1 = tMi (hoW E τ n) st := by unfold tWh; rw [if_neg (by decide), if_pos rfl]
  have v3 : FX10_misses LF (nI n) τ = some (tMi (hoW E τ n) st, τ) := by
    rw [FX10_toldOf, if_neg (by decide), if_pos rfl, w1] at v2
    cases hm : FX10_misses LF (nI n) τ with
    | none => rw [hm] at v2; cases v2
    | some q => rw [hm] at v2; exact v2
  have nn : ¬ (¬ ((FP.ddiv (FP.i2d (nI st - tMi (hoW E τ n) st)) (FP.i2d (nI st))) &&& 0x7fffffffffffffff ≤ 0x7ff0000000000000)) := by
    obtain ⟨m, hm, e⟩ := tMi_le (A := hoW E τ n) st
    rw [e]
    exact fun y => y (shN st (by omega) m (by omega) z)
  have h0 : ¬ nI st = 0 := nI_ne0 (by omega) (by omega)
  exact ⟨by rw [FX10_share, e2, b2r, if_neg (by decide), h.2.2.1.2.2.1, if_neg h0, v3, b2r, if_neg nn], nn⟩
/-- a let or a watch looks at what has been alone -/
theorem w_dn (h : RelW kw len E nm nc st ks km σ τ) {s n i : Nat} (hs : s < 4) (h0 : s ≠ 0) (hn : n < E.ct s) {g g' : Hs} (hc : hC g g' i) : (E.dn s n).1 g i = (E.dn s n).1 g' i := by
  obtain ⟨qc, b1, b2', b3, b4⟩ := h.2.1.2.2.2.1.2.2.2.1 s n hs h0 hn
  rw [← b3]
  exact vaN_same h.2.1.2.2.2.2.2.1.2.2.1 (fun _ _ => rfl) qc i b1 hc
-- the checksum
def cvD (E : EnvN) (len st ks n : Nat) : Int32 := if n < 4 then nI (E.ct n) else if n = 4 then nI st else if n = 5 then nI ks else nI len
def digV (E : EnvN) (τ : CS) (len st ks : Nat) : Int64 := fdg (τ.2.2.2.1 58) (E.ct 0) (wfd E τ st (E.ct 3) (sfd E τ st (fdg (fun n => (cvD E len st ks n).toInt64) 7 383)))
theorem w_digest (h : RelW kw len E nm nc st ks km σ τ) : FX10_digest LF τ = some (digV E τ len st ks, τ) := by
  obtain ⟨hT, hP, hH, hK, hM, hC, hA⟩ := id h
  have h120 := hH.1
  have c8 := hP.1.c8
  have c12 : E.ct 3 ≤ 12 := hP.1.c12 (by decide)
  have hw : ∀ s, s < 4 → FX10_howMany (nI s) τ = some (nI (E.ct s), τ) := fun s hs => by
    rw [FX10_howMany, if_neg (by rw [show (4 : Int32) = nI 4 from rfl, nI_eq (by omega) (by omega)]; omega), if_neg (by rw [show (5 : Int32) = nI 5 from rfl, nI_eq (by omega) (by omega)]; omega), if_neg (by rw [show (6 : Int32) = nI 6 from rfl, nI_eq (by omega) (by omega)]; omega), gI hs (by decide), hP.2.2.2.1.2.2.1 s hs]
  have hcv : ∀ n, n < 7 → FX10_howMany (nI n) τ = some (cvD E len st ks n, τ) := fun n hn => by
    unfold cvD
    by_cases z : n < 4
    · rw [if_pos z]; exact hw n z
    · rw [if_neg z]
      have : n = 4 ∨ n = 5 ∨ n = 6 := by omega
      rcases this with rfl | rfl | rfl
      · rw [if_pos rfl, FX10_howMany, if_pos (by decide), hH.2.2.1]
      · rw [if_neg (by decide), if_pos rfl, FX10_howMany, if_neg (by decide), if_pos (by decide), hK.2.2.2.1]
      · rw [if_neg (by decide), if_neg (by decide), FX10_howMany, if_neg (by decide), if_neg (by decide), if_pos (by decide), hT.2.2.1]
  have e1 : FX10_digest LF τ = FX10_digest_33 LF LF (fdg (fun n => (cvD E len st ks n).toInt64) 7 383) 0 τ := cD6 (L := LF) (a := 383) (fun n hn => hcv n hn) 7 0 5000 (by omega) (by omega)
  have e2 : ∀ a, FX10_digest_33 LF LF a 0 τ = FX10_digest_59 LF LF (sfd E τ st a) 0 τ := fun a => cD33 (a := a) hH.2.2.1 h120 (fun i hi d0 => cDStep hP hH hM hC hi) st 0 5000 (by omega) (by omega)
  have e3 : ∀ a, FX10_digest_59 LF LF a 0 τ = _ := fun a => cD59 (st := st) (a := a) (hw 3 (by decide)) (hw 0 (by decide)) c12 c8 (fun w hw x hx => (toldV hP hH hM hC hw (nI x)).2) (E.ct 3) 0 5000 (by omega) (by omega)
  rw [e1, e2, e3]
  rfl
theorem tWh_congr {lv : Int32} {A B : Nat → Bool} : ∀ n, (∀ j, j < n → A j = B j) → ∀ x, tWh lv A n x = tWh lv B n x := by
  intro n h x
  have hall : tMi A n = tMi B n ∧ tFi A n = tFi B n ∧ tRo A n = tRo B n ∧ tMo A n = tMo B n := by
    induction n with
    | zero => exact ⟨rfl, rfl, rfl, rfl⟩
    | succ n ih =>
      obtain ⟨a, b, c, d⟩ := ih (fun j hj => h j (by omega))
      have e := h n (by omega)
      have r : tRo A (n + 1) = tRo B (n + 1) := by rw [tRo, tRo, e, c]
      exact ⟨by rw [tMi, tMi, e, a], by rw [tFi, tFi, e, b], r, by rw [tMo, tMo, r, d]⟩
  unfold tWh
  rw [hall.1, hall.2.1, hall.2.2.1, hall.2.2.2]
/-- two states with one history have one checksum -/
theorem w_dsame {σ' : MS} {τ' : CS} {nm' nc' km' : Nat} (h : RelW kw len E nm nc st ks km σ τ) (h' : RelW kw len E nm' nc' st ks km' σ' τ') (hh : ∀ j, j < st → (hsC τ').1 j = (hsC τ).1 j ∧ ∀ k, (hsC τ').2 k j = (hsC τ).2 k j) (hs : ∀ k, k < E.ct 0 → τ'.2.2.2.1 58 k = τ.2.2.2.1 58 k) : digV E τ' len st ks = digV E τ len st ks := by
  have hc : ∀ i, i < st → hC (hsC τ') (hsC τ) i := fun i hi j hj => hh j (by omega)
  have dn : ∀ s n i, s < 4 → s ≠ 0 → n < E.ct s → i < st → (E.dn s n).1 (hsC τ') i = (E.dn s n).1 (hsC τ) i := fun s n i a b c d => w_dn h a b c (hc i d)
  have es : ∀ i a, i < st → stpD E τ' i a = stpD E τ i a := fun i a hi => by
    unfold stpD
    have e0 : τ'.2.2.1 46 i = τ.2.2.1 46 i := (hh i hi).1
    rw [e0, fdg_congr (g := fun k => τ'.2.2.2.2 0 k i) (E.ct 0) (h := fun k => τ.2.2.2.2 0 k i) (fun k _ => (hh i hi).2 k), fdg_congr (E.ct 2) (h := fun n => (E.dn 2 n).1 (hsC τ) i) (fun n hn => dn 2 n i (by decide) (by decide) hn hi), fdg_congr (E.ct 1) (h := fun n => (E.dn 1 n).1 (hsC τ) i) (fun n hn => dn 1 n i (by decide) (by decide) hn hi), fdg_congr (E.ct 3) (h := fun n => (E.dn 3 n).1 (hsC τ) i) (fun n hn => dn 3 n i (by decide) (by decide) hn hi)]
  have ef : ∀ n a, n ≤ st → sfd E τ' n a = sfd E τ n a := by
    intro n
    induction n with
    | zero => intro a _; rfl
    | succ n ih => intro a hn; rw [sfd, sfd, ih a (by omega), es n _ (by omega)]
  have ew : ∀ n a, n ≤ E.ct 3 → wfd E τ' st n a = wfd E τ st n a := by
    intro n
    induction n with
    | zero => intro a _; rfl
    | succ n ih =>
      intro a hn
      rw [wfd, wfd, ih a (by omega)]
      refine fdg_congr 5 (fun x _ => ?_)
      show (tWh (E.lv n) (hoW E τ' n) st (nI x)).toInt64 = (tWh (E.lv n) (hoW E τ n) st (nI x)).toInt64
      rw [tWh_congr st (B := hoW E τ n) (fun j hj => by
        unfold hoW
        rw [dn 3 n j (by decide) (by decide) (by omega) hj]) (nI x)]
  unfold digV
  rw [ef st _ (Nat.le_refl _), ew (E.ct 3) _ (Nat.le_refl _), fdg_congr (E.ct 0) hs]
theorem w_set (h : RelW kw len E nm nc st ks km σ τ) {n : Nat} (hn : n < E.ct 0) (v : Int64) : FX10_set (nI n) v τ = some (.inr (τ.2.2.2.1 58 n), tB τ 58 (vp_updL (τ.2.2.2.1 58) n v)) ∧ ∃ σ', RelW kw len E nm nc st ks km σ' (tB τ 58 (vp_updL (τ.2.2.2.1 58) n v)) := by
  have e2 : FX10_isItem 0 (nI n) τ = some (1, τ) := w_item h (s := 0) (by decide) hn
  have c8 := h.2.1.1.c8
  refine ⟨by rw [FX10_set, e2, b2r, if_neg (by decide), gL (show n < 8 by omega) (by decide), pL (show n < 8 by omega) (by decide)], sB σ 32 (vp_updL (σ.2.2 32) n v), ?_⟩
  obtain ⟨hT, hP, ⟨h1, h2, h3, h4, h5, h6, h7⟩, hK, hM, hC, hA⟩ := h
  refine ⟨hT, hP, ⟨h1, h2, h3, h4, h5, h6, fun k hk => ?_⟩, hK, hM, hC, hA⟩
  rw [sB_row, tB_row]
  by_cases z : k = n
  · rw [z, updL_s, updL_s]
  · rw [updL_n z, updL_n z]; exact h7 k hk
end WR
section RG2
variable {σ σ1 σ2 : MS} {τ τ1 τ2 : CS} {kw : Nat → Int64} {len nm nc st ks km c L : Nat} {E : EnvN}
/-- one step in both, and what stays -/
theorem stepBoth2 {x : Int32} (h : RelW kw len E nm nc st ks km σ τ) (hst : st < 120) (ht : TmOK (upd (τ.2.2.1 46) st x) (st + 1)) : ∃ σ' τ' r, FX10_doStep LF x τ = some ((), τ') ∧ FX10_broken LF 0 τ' = some (r, τ') ∧ FX11_step LF x σ = some (r, σ') ∧ RelW kw len E nm nc (st + 1) ks km σ' τ' ∧ σ'.1 0 = σ.1 0 ∧ τ'.2.2.1 46 = upd (τ.2.2.1 46) st x ∧ τ'.2.2.1 51 = τ.2.2.1 51 ∧ τ'.2.2.2.1 = τ.2.2.2.1 ∧ (∀ k i, τ'.2.2.2.2 0 k i = if i = st ∧ 0 ≤ k ∧ k < E.ct 0 then τ.2.2.2.1 58 k else τ.2.2.2.2 0 k i) ∧ τ'.2.2.2.2 1 = τ.2.2.2.2 1 ∧ τ'.1 2808 = τ.1 2808 ∧ r = cnB (fun w => hoW E τ' w st) (E.ct 3) := by
  obtain ⟨hT, hP, hH, hK, hM, hC, hA⟩ := id h
  obtain ⟨p1, p2, p3, p4, ⟨p5, p6, p7, p8⟩, ⟨p9, q1, q2, q3⟩, q4, q5⟩ := id hP
  obtain ⟨h1, h2, h3, h4, h5, h6, h7⟩ := id hH
  have c8 := p1.c8
  have hl : LF = 5000 := rfl
  -- the class
  obtain ⟨T0, e1, g1⟩ := cSigL (L := LF) c8 hst (E.ct 0) 0 5000 (tA τ 46 (upd (τ.2.2.1 46) st x)) (by omega) (by omega) q4
  have hx : ∃ τ1, τ1 = tI (tT (tA τ 46 (upd (τ.2.2.1 46) st x)) 0 T0) 4402 (nI (st + 1)) := ⟨_, rfl⟩
  obtain ⟨τ1, hτ1⟩ := hx
  have t46 : τ1.2.2.1 46 = upd (τ.2.2.1 46) st x := by rw [hτ1]; exact tA_row (σ := τ) (k := 46) (f := upd (τ.2.2.1 46) st x)
  have tr : ∀ j, j ≠ 46 → τ1.2.2.1 j = τ.2.2.1 j := fun j hj => by rw [hτ1]; exact tA_o hj
  have tT0 : ∀ k i, τ1.2.2.2.2 0 k i = T0 k i := fun k i => by rw [hτ1]; exact congrFun (congrFun tT_row k) i
  have tTo : ∀ j, j ≠ 0 → τ1.2.2.2.2 j = τ.2.2.2.2 j := fun j hj => by rw [hτ1]; exact tT_o hj
  have ti : ∀ j, j ≠ 4402 → τ1.1 j = τ.1 j := fun j hj => by rw [hτ1]; exact tI_o hj
  have tB1 : τ1.2.2.2.1 = τ.2.2.2.1 := by rw [hτ1]
  have tL1 : τ1.2.1 = τ.2.1 := by rw [hτ1]
  have t44 : τ1.1 4402 = nI (st + 1) := by rw [hτ1]; exact tI_g
  have ntc : ntC τ1 = ntC τ := by unfold ntC; rw [tr 15 (by decide), tr 19 (by decide), tr 21 (by decide), tr 23 (by decide), tr 25 (by decide), tr 27 (by decide)]
  have bd : ∀ {q}, bdC τ q → bdC τ1 q := fun {q} hq => by
    unfold bdC at hq ⊢
    rw [tr 25 (by decide), tr 27 (by decide)]; exact hq
  have cel : ∀ q i, cellC τ1 q i = cellC τ q i := fun q i => by unfold cellC; rw [tTo 2 (by decide)]
  have hc8 : ∀ j, j < st → h8 (hsC τ1) (hsC τ) j := fun j hj j' hj' => ⟨by
    show τ1.2.2.1 46 j' = τ.2.2.1 46 j'
    rw [t46, upd_n (by omega)], fun k hk => by
    show τ1.2.2.2.2 0 k j' = τ.2.2.2.2 0 k j'
    rw [tT0, g1 k j', if_neg (by omega)]⟩
  have old : ∀ {V : Nat → Prop}, okT V (ntC τ) → TabC V st τ → ∀ q, V q → ∀ j, j < st → cellC τ1 q j = vaN (ntC τ1) (hsC τ1) q j := fun {V} hV hTab q hq j hj => by
    rw [cel, ntc, va8 hV hq (hc8 j hj)]; exact hTab q hq j hj
  have vt : VT (τ1.2.2.1 46) st := by rw [t46]; exact ht.vt (by omega) (by omega)
  obtain ⟨T1, e2, g2, g3⟩ := cReckon (N := nc) (from' := 0) (V := fun q => q < nc) (i := st) (L := LF) (by omega) (fun m hm => hm) (fun m _ hm => hm) hst (by decide) nc 0 5000 τ1 (by rw [ntc]; exact q2) (fun q hq => bd (q3 q hq)) vt (Nat.le_refl 0) (by omega) (by omega) (fun m _ hm => absurd hm (Nat.not_lt_zero _)) (fun m hm j hj => old q2 hC m hm j hj)
  -- the question of the class
  have e3 : ∃ T2 : Nat → Nat → Int64, FX10_doStep LF x τ = some ((), tT τ1 2 T2) ∧ (∀ m, m < nc → ∀ j, j ≤ st → T2 m j = vaN (ntC τ1) (hsC τ1) m j) ∧ (AskYes nm nc st σ τ → ∀ p0 ne qc, AskC nc st p0 ne qc τ → ∀ m, Vx (fun q => q < nc) p0 ne m → ∀ j, j ≤ st → T2 m j = vaN (ntC τ1) (hsC τ1) m j) := by
    have start : FX10_doStep LF x τ = (b2 (some ((), tT τ1 2 T1)) fun (_ : Unit) σ_2 => if (σ_2.1 10) = 0 then some ((), σ_2) else b2 (FX6_reckon LF (σ_2.1 12) (σ_2.1 13) (nI st) σ_2) fun (_ : Unit) σ_4 => some ((), σ_4)) := by
      rw [FX10_doStep, h3, pI (show st < 120 by omega) (by decide)]
      refine (show FX10_doStep_22 LF LF (nI st) 0 (tA τ 46 (upd (τ.2.2.1 46) st x)) = _ from e1).trans ?_
      rw [← hτ1]
      have e2 : FX6_reckon LF 0 (nI nc) (nI st) τ1 = some ((), tT τ1 2 T1) := e2
      rw [show (tA τ 46 (upd (τ.2.2.1 46) st x)).1 2809 = nI nc from p9, e2]
    rw [start, b2r]
    rcases hA with ⟨a1, a2, a3⟩ | hA
    · refine ⟨T1, ?_, g2, fun z => ?_⟩
      · rw [show (tT τ1 2 T1).1 10 = 0 from (ti 10 (by decide)).trans a2, if_pos rfl]
      · have := z.1; rw [a2] at this; exact absurd this (by decide)
    · obtain ⟨a0, p0, ne, qc, na, qm, hq, d, e⟩ := id hA
      obtain ⟨b1, b2', b3, b4, b5, b6, b7, b8, b9, b10⟩ := id hq
      obtain ⟨T2, f1, f2, f3⟩ := cReckon (N := ne) (from' := p0) (V := Vx (fun q => q < nc) p0 ne) (i := st) (L := LF) (by omega) (fun m hm => hm.elim (fun z => by have z : m < nc := z; omega) (fun z => z.2)) (fun m h1 h2 => Or.inr ⟨h1, h2⟩) hst (by decide) (ne - p0) p0 5000 (tT τ1 2 T1) (show okT _ (ntC τ1) by rw [ntc]; exact b8) (fun q hq => bd (b9 q hq)) vt (Nat.le_refl _) (by omega) (by omega) (fun m hm hlt j hj => by
        show (tT τ1 2 T1).2.2.2.2 2 m j = _
        rw [show (tT τ1 2 T1).2.2.2.2 2 = T1 from tT_row]
        exact g2 m (hm.elim id (fun z => by omega)) j hj) (fun m hm j hj => by
        show (tT τ1 2 T1).2.2.2.2 2 m j = _
        rw [show (tT τ1 2 T1).2.2.2.2 2 = T1 from tT_row]
        by_cases z : m < nc
        · exact g2 m z j (by omega)
        · rw [g3 m j (by omega)]
          exact old b8 b10 m hm j hj)
      refine ⟨T2, ?_, fun m hm j hj => ?_, fun _ p0' ne' qc' hq' m hm j hj => ?_⟩
      · have f1 : FX6_reckon LF (nI p0) (nI ne) (nI st) (tT τ1 2 T1) = some ((), tT (tT τ1 2 T1) 2 T2) := f1
        rw [if_neg (by rw [show (tT τ1 2 T1).1 10 = 1 from (ti 10 (by decide)).trans a0]; decide), show (tT τ1 2 T1).1 12 = nI p0 from (ti 12 (by decide)).trans b4, show (tT τ1 2 T1).1 13 = nI ne from (ti 13 (by decide)).trans b5, f1, b2r, tT_tT]
      · exact f2 m (Or.inl hm) j hj
      · have w1 : p0' = p0 := by
          have := hq'.2.2.2.1; rw [b4, nI_eq (by rcases b1 with z | z <;> omega) (by rcases hq'.1 with z | z <;> omega)] at this; exact this.symm
        have w2 : ne' = ne := by
          have := hq'.2.2.2.2.1; rw [b5, nI_eq (by rcases b1 with z | z <;> omega) (by rcases hq'.1 with z | z <;> have := hq'.2.2.1 <;> omega)] at this; exact this.symm
        subst w1; subst w2
        exact f2 m hm j hj
  obtain ⟨T2, e3, g4, g5⟩ := e3
  -- the reference
  obtain ⟨S, r1, s1⟩ := rSigL (L := LF) c8 hst (E.ct 0) 0 5000 (sA σ 30 (upd (σ.2.1 30) st x)) (by omega) (by omega) (p3.2.2.1 0 (by decide)) h2
  have hy : ∃ σ1, σ1 = sB (sA σ 30 (upd (σ.2.1 30) st x)) 31 S := ⟨_, rfl⟩
  obtain ⟨σ1, hσ1⟩ := hy
  have u30 : σ1.2.1 30 = upd (σ.2.1 30) st x := by rw [hσ1]; exact sA_row (σ := σ) (k := 30) (f := upd (σ.2.1 30) st x)
  have ur : ∀ j, j ≠ 30 → σ1.2.1 j = σ.2.1 j := fun j hj => by rw [hσ1]; exact sA_o hj
  have u31 : σ1.2.2 31 = S := by rw [hσ1]; exact sB_row
  have ub : ∀ j, j ≠ 31 → σ1.2.2 j = σ.2.2 j := fun j hj => by rw [hσ1]; exact sB_o hj
  have ui : σ1.1 = σ.1 := by rw [hσ1]
  have ntm : ntM σ1 = ntM σ := by unfold ntM; rw [ur 9 (by decide), ur 10 (by decide), ur 11 (by decide), ur 12 (by decide), ur 13 (by decide), ur 14 (by decide)]
  have hm8 : ∀ j, j < st → h8 (hsM σ1) (hsM σ) j := fun j hj j' hj' => ⟨by
    show σ1.2.1 30 j' = σ.2.1 30 j'
    rw [u30, upd_n (by omega)], fun k hk => by
    show σ1.2.2 31 (8 * j' + k) = σ.2.2 31 (8 * j' + k)
    rw [u31, s1 k j' hk, if_neg (by omega)]⟩
  obtain ⟨f, r2, s2, s3⟩ := rReckon (N := nm) (from' := 0) (V := fun q => q < nm) (i := st) (L := LF) (by omega) (fun m hm => hm) (fun m _ hm => hm) hst (by decide) nm 0 5000 σ1 (by rw [ntm]; exact p7) (by rw [ntm]; exact p8) (Nat.le_refl 0) (by omega) (by omega) (fun m _ hm => absurd hm (Nat.not_lt_zero _)) (fun m hm j hj => by
    have : tabM σ1 m j = tabM σ m j := by unfold tabM; rw [ub 16 (by decide)]
    rw [this, ntm, va8 p7 hm (hm8 j hj)]; exact hM m hm j hj)
  -- both together
  have hW2 : RelW kw len E nm nc (st + 1) ks km (sI (sB σ1 16 f) 29 (nI (st + 1))) (tT τ1 2 T2) := by
    have P3 : RefE E nm (sI (sB σ1 16 f) 29 (nI (st + 1))) := by
      obtain ⟨a1, a2, a3, a4, a5, a6⟩ := p3
      have nt2 : ntM (sI (sB σ1 16 f) 29 (nI (st + 1))) = ntM σ := ntm
      refine ⟨by rw [sI_o (by decide)]; show σ1.1 19 = _; rw [ui]; exact a1, fun j hj => ?_, fun s hs => ?_, fun s i u1 u2 u3 => ?_, fun i hi => ?_, fun i hi => ?_⟩
      · show TX (E.wd j) ((sB σ1 16 f).2.2 20 j) ∧ σ1.2.1 21 j = _ ∧ σ1.2.1 22 j = _
        rw [sB_o (by decide), ub 20 (by decide), ur 21 (by decide), ur 22 (by decide)]; exact a2 j hj
      · show σ1.2.1 23 s = _
        rw [ur 23 (by decide)]; exact a3 s hs
      · rw [nt2]
        show ∃ q, q < nm ∧ σ1.2.1 25 (12 * s + i) = nI q ∧ dnV (ntM σ) q = (E.dn s i).1 ∧ (s = 1 ∨ s = 3 → dnR (ntM σ) (σ1.2.1 15) q = (E.dn s i).2 ∧ BlD (E.dn s i))
        rw [ur 25 (by decide), ur 15 (by decide)]; exact a4 s i u1 u2 u3
      · show (sB σ1 16 f).2.2 24 i = _
        rw [sB_o (by decide), ub 24 (by decide)]; exact a5 i hi
      · show σ1.2.1 26 i = _
        rw [ur 26 (by decide)]; exact a6 i hi
    have P4 : ClsE E nc (tT τ1 2 T2) := by
      obtain ⟨a1, a2, a3, a4, a5, a6⟩ := p4
      have nt2 : ntC (tT τ1 2 T2) = ntC τ := ntc
      refine ⟨(ti 2807 (by decide)).trans a1, fun j hj => ?_, fun s hs => ?_, fun s i u1 u2 u3 => ?_, fun i hi => ?_, fun i hi => ?_⟩
      · show τ1.2.2.2.1 30 j = _ ∧ τ1.2.2.1 32 j = _ ∧ (_ → τ1.2.2.1 34 j = _) ∧ (_ → τ1.2.2.1 34 j = τ1.2.2.1 38 _)
        rw [tB1, tr 32 (by decide), tr 34 (by decide), tr 38 (by decide)]; exact a2 j hj
      · show τ1.2.2.1 36 s = _
        rw [tr 36 (by decide)]; exact a3 s hs
      · rw [nt2]
        show ∃ q, q < nc ∧ τ1.2.2.1 38 (12 * s + i) = nI q ∧ dnV (ntC τ) q = (E.dn s i).1 ∧ (s = 1 ∨ s = 3 → dnR (ntC τ) (τ1.2.2.1 17) q = (E.dn s i).2)
        rw [tr 38 (by decide), tr 17 (by decide)]; exact a4 s i u1 u2 u3
      · show τ1.2.2.2.1 40 i = _
        rw [tB1]; exact a5 i hi
      · show τ1.2.2.1 42 i = _
        rw [tr 42 (by decide)]; exact a6 i hi
    obtain ⟨t1, t2, t3, t4, t5, t6⟩ := hT
    obtain ⟨k1, k2, k3, k4, k5, k6, k7, k8, k9⟩ := hK
    have i0 : ∀ j, j ≠ 29 → (sI (sB σ1 16 f) 29 (nI (st + 1))).1 j = σ.1 j := fun j hj => by rw [sI_o hj]; show σ1.1 j = _; rw [ui]
    have cT : ∀ q i, cellC (tT τ1 2 T2) q i = T2 q i := fun q i => congrFun (congrFun tT_row q) i
    refine ⟨⟨?_, ?_, ?_, ?_, ?_, ?_⟩, ⟨p1, p2, P3, P4, ⟨?_, p6, ?_, ?_⟩, ⟨?_, q1, ?_, ?_⟩, ?_, ?_⟩, ⟨by omega, sI_g, t44, ?_, fun i hi => ?_, fun k i hk hi => ?_, fun k hk => ?_⟩, ⟨k1, k2, ?_, ?_, ?_, ?_, ?_, fun i hi => ?_, fun k i hk hi => ?_⟩, fun q hq i hi => ?_, fun q hq i hi => ?_, ?_⟩
    · show τ1.2.2.2.1 6 = _; rw [tB1]; exact t1
    · rw [i0 2 (by decide)]; exact t2
    · exact (ti 101 (by decide)).trans t3
    · show okBt (τ1.2.2.1 3) len; rw [tr 3 (by decide)]; exact t4
    · show σ1.2.1 1 = τ1.2.2.1 3; rw [ur 1 (by decide), tr 3 (by decide)]; exact t5
    · rw [i0 3 (by decide)]; exact t6.trans (ti 9 (by decide)).symm
    · rw [i0 27 (by decide)]; exact p5
    · show okT _ (ntM σ1); rw [ntm]; exact p7
    · show ∀ q, q < nm → okB (ntM σ1 q); rw [ntm]; exact p8
    · exact (ti 2809 (by decide)).trans p9
    · show okT _ (ntC τ1); rw [ntc]; exact q2
    · exact fun q hq => bd (q3 q hq)
    · exact (ti 4403 (by decide)).trans q4
    · rw [i0 18 (by decide)]; exact q5.trans (ti 2808 (by decide)).symm
    · show TmOK (τ1.2.2.1 46) _; rw [t46]; exact ht
    · show σ1.2.1 30 i = τ1.2.2.1 46 i
      rw [u30, t46]
      by_cases z : i = st
      · rw [z, upd_s, upd_s]
      · rw [upd_n z, upd_n z]; exact h5 i (by omega)
    · show (sB σ1 16 f).2.2 31 (8 * i + k) = (tT τ1 2 T2).2.2.2.2 0 k i
      rw [sB_o (by decide), u31, tT_o (by decide), tT0, s1 k i hk, g1 k i]
      by_cases z : i = st ∧ 0 ≤ k ∧ k < E.ct 0
      · rw [if_pos z, if_pos z]; exact h7 k z.2.2
      · rw [if_neg z, if_neg z]; exact h6 k i hk hi
    · show (sB σ1 16 f).2.2 32 k = τ1.2.2.2.1 58 k
      rw [sB_o (by decide), ub 32 (by decide), tB1]; exact h7 k hk
    · rw [i0 33 (by decide)]; exact k3
    · exact (ti 4902 (by decide)).trans k4
    · rw [i0 34 (by decide)]; exact k5
    · exact (ti 4903 (by decide)).trans k6
    · show TmOK (τ1.2.2.1 51) _; rw [tr 51 (by decide)]; exact k7
    · show σ1.2.1 35 i = τ1.2.2.1 51 i; rw [ur 35 (by decide), tr 51 (by decide)]; exact k8 i hi
    · show (sB σ1 16 f).2.2 36 (8 * i + k) = (tT τ1 2 T2).2.2.2.2 1 k i
      rw [sB_o (by decide), ub 36 (by decide), tT_o (by decide), tTo 1 (by decide)]; exact k9 k i hk hi
    · exact s2 q hq i (by omega)
    · rw [cT]; exact g4 q hq i (by omega)
    · rcases hA with ⟨a1, a2, a3⟩ | hA
      · exact Or.inl ⟨by rw [i0 28 (by decide)]; exact a1, (ti 10 (by decide)).trans a2, by rw [show (tT τ1 2 T2).1 12 = τ.1 12 from ti 12 (by decide)]; exact a3⟩
      · obtain ⟨a0, p0, ne, qc, na, qm, hq, ⟨d1, d2, d3, d4, d5, d6, d7⟩, e⟩ := id hA
        obtain ⟨b1, b2', b3, b4, b5, b6, b7, b8, b9, b10⟩ := id hq
        refine Or.inr ⟨(ti 10 (by decide)).trans a0, p0, ne, qc, na, qm, ⟨b1, b2', b3, (ti 12 (by decide)).trans b4, (ti 13 (by decide)).trans b5, (ti 11 (by decide)).trans b6, b7, ?_, fun q hq => bd (b9 q hq), fun q hq' i hi => ?_⟩, ⟨d1, d2, ?_, ?_, d5, ?_, ?_⟩, ?_⟩
        · show okT _ (ntC τ1); rw [ntc]; exact b8
        · rw [cT]; exact g5 hA p0 ne qc hq q hq' i (by omega)
        · rw [i0 28 (by decide)]; exact d3
        · rw [i0 40 (by decide)]; exact d4
        · show okT _ (ntM σ1); rw [ntm]; exact d6
        · show ∀ q, q < na → okB (ntM σ1 q); rw [ntm]; exact d7
        · show dnV (ntM σ1) qm = dnV (ntC τ1) qc; rw [ntm, ntc]; exact e
  have hbr : FX10_broken LF 0 (tT τ1 2 T2) = some (cnB (fun w => hoW E (tT τ1 2 T2) w st) (E.ct 3), tT τ1 2 T2) := by
    rw [cBroken hW2.2.1 hW2.2.2.1 hW2.2.2.2.2.1 hW2.2.2.2.2.2.1, if_neg (by omega)]
    rw [cnB_congr (B := fun w => hoW E (tT τ1 2 T2) w st) (E.ct 3) (fun j hj => by
      unfold brW
      rw [decide_eq_false (p2 j)]; rfl)]
  refine ⟨sI (sB σ1 16 f) 29 (nI (st + 1)), tT τ1 2 T2, _, e3, hbr, ?_, hW2, ?_, t46, tr 51 (by decide), tB1, fun k i => ?_, ?_, ti 2808 (by decide), rfl⟩
  · rw [FX11_step, h2, if_neg (nI_in hst (by decide)), nI_clamp (by omega)]
    refine (show FX11_step_12 LF LF 0 (sA σ 30 (upd (σ.2.1 30) st x)) = _ from r1).trans ?_
    rw [← hσ1]
    have r2 : FX11_reckon LF 0 (nI nm) (nI st) σ1 = some ((), sB σ1 16 f) := r2
    rw [show (sA σ 30 (upd (σ.2.1 30) st x)).1 27 = nI nm from p5, r2, b2r]
    have hct : (sB σ1 16 f).2.1 23 3 = nI (E.ct 3) := by show σ1.2.1 23 3 = _; rw [ur 23 (by decide)]; exact p3.2.2.1 3 (by decide)
    have h29 : (sB σ1 16 f).1 29 = nI st := by show σ1.1 29 = _; rw [ui]; exact h2
    have c12 : E.ct 3 ≤ 12 := p1.c12 (by decide)
    refine rCntL (σ := sB σ1 16 f) (A := fun w => hoW E (tT τ1 2 T2) w st) hct (p1.c12 (by decide)) h29 hst (fun w hw => ?_) (E.ct 3) 0 5000 (by omega) (by omega)
    have := rWaV (σ := sI (sB σ1 16 f) 29 (nI (st + 1))) hW2.2.1 hW2.2.2.1 hW2.2.2.2.2.1 hW2.2.2.2.2.2.1 hw (show st < st + 1 by omega)
    obtain ⟨qm, qc, a1, a2, a3, a4, a5, a6⟩ := itemV (s := 3) hW2.2.1 hW2.2.2.1 hW2.2.2.2.2.1 hW2.2.2.2.2.2.1 (by decide) (by decide) hw
    have a3 : (sB σ1 16 f).2.1 25 (12 * 3 + w) = nI qm := a3
    have a5' : tabM (sB σ1 16 f) qm st = (E.dn 3 w).1 (hsC (tT τ1 2 T2)) st := (a5 st (by omega)).1
    have h12 : E.ct 3 ≤ 12 := p1.c12 (by decide)
    rw [FX11_watches, show (36 : Int32) + nI w = nI (12 * 3 + w) from nI_add 36 w, if_neg (nI_in (show 12 * 3 + w < 48 by omega) (by decide)), nI_clamp (by omega), a3, rHolds (by omega) (by omega), a5', b2r, if_neg bI_nn]
    rfl
  · rw [sI_o (by decide)]; show σ1.1 0 = _; rw [ui]
  · have e0 : (tT τ1 2 T2).2.2.2.2 0 k i = T0 k i := by
      rw [tT_o (by decide)]; exact tT0 k i
    exact e0.trans (g1 k i)
  · exact (tT_o (by decide)).trans (tTo 1 (by decide))
/-- a step -/
theorem w_tick {x : Nat} (h : RelW kw len E nm nc st ks km σ τ) (hx : x ≤ 1000) (hst : st < 120) (hp : ¬ τ.1 2808 = 0) : ∃ v σ' τ', FX10_tick LF (nI x) τ = some (.inr (cnB (fun w => hoW E τ' w st) (E.ct 3)), τ') ∧ RelW kw len E nm nc (st + 1) ks km σ' τ' ∧ τ'.2.2.1 46 = upd (τ.2.2.1 46) st v ∧ τ'.2.2.2.1 = τ.2.2.2.1 ∧ (∀ k i, τ'.2.2.2.2 0 k i = if i = st ∧ 0 ≤ k ∧ k < E.ct 0 then τ.2.2.2.1 58 k else τ.2.2.2.2 0 k i) ∧ τ'.1 2808 = τ.1 2808 := by
  obtain ⟨hT, hP, hH, hK, hM, hC, hA⟩ := id h
  obtain ⟨h1, h2, h3, h4, h5, h6, h7⟩ := id hH
  have fin : ∀ v, v ≤ 1000 * (st + 1) → (∀ f : Nat → Nat, (∀ j, j < st → τ.2.2.1 46 j = nI (f j) ∧ f j ≤ 1000 * (j + 1)) → (∀ j k, j ≤ k → k < st → f j ≤ f k) → ∀ j, j < st → f j ≤ v) → ∃ v' σ' τ', (b2 (FX10_doStep LF (nI v) τ) fun (_ : Unit) σ_6 => b2 (FX10_broken LF (0 : Int32) σ_6) fun r_7 σ_7 => (some (.inr r_7, σ_7) : Option ((Nat ⊕ Int32) × CS))) = some (.inr (cnB (fun w => hoW E τ' w st) (E.ct 3)), τ') ∧ RelW kw len E nm nc (st + 1) ks km σ' τ' ∧ τ'.2.2.1 46 = upd (τ.2.2.1 46) st v' ∧ τ'.2.2.2.1 = τ.2.2.2.1 ∧ (∀ k i, τ'.2.2.2.2 0 k i = if i = st ∧ 0 ≤ k ∧ k < E.ct 0 then τ.2.2.2.1 58 k else τ.2.2.2.2 0 k i) ∧ τ'.1 2808 = τ.1 2808 := by
    intro v hv hmon
    obtain ⟨f, f1, f2⟩ := h4
    have tm : TmOK (upd (τ.2.2.1 46) st (nI v)) (st + 1) := by
      refine ⟨fun j => if j = st then v else f j, fun j hj => ?_, fun j k hjk hk => ?_⟩
      · by_cases w : j = st
        · simp only [w, if_true]; rw [upd_s]; exact ⟨rfl, hv⟩
        · simp only [w, if_false]; rw [upd_n w]; exact f1 j (by omega)
      · by_cases w : k = st
        · by_cases w2 : j = st
          · simp only [w, w2, if_true]; exact Nat.le_refl _
          · simp only [w, w2, if_true, if_false]; exact hmon f f1 f2 j (by omega)
        · have w2 : j ≠ st := by omega
          simp only [w, w2, if_false]; exact f2 j k hjk (by omega)
    obtain ⟨σ', τ', r, g1, g2, g3, g4, g5, g6, g7, g8, g9, g10, g11, g12⟩ := stepBoth2 h hst tm
    refine ⟨nI v, σ', τ', ?_, g4, g6, g8, g9, g11⟩
    rw [g1, b2r, g2, b2r, g12]
  rw [FX10_tick, show (1000 : Int32) = nI 1000 from rfl, if_neg (nI_pos (by omega)), if_pos (nI_le hx (by decide)), if_neg hp, h3, show (120 : Int32) = nI 120 from rfl, if_pos (nI_lt hst (by decide)), FX0_lastTime, h3]
  by_cases w : st = 0
  · subst w
    rw [if_pos (by decide), b2r]
    have e0 : (0 : Int32) + nI x = nI x := by rw [show (0 : Int32) = nI 0 from rfl, nI_add, Nat.zero_add]
    rw [e0]
    exact fin x (by omega) (fun f _ _ j hj => absurd hj (Nat.not_lt_zero _))
  · have e1 : nI st - 1 = nI (st - 1) := nI_sub (show 1 ≤ st by omega)
    obtain ⟨f, f1, f2⟩ := id h4
    have w1 := f1 (st - 1) (by omega)
    rw [if_neg (nI_nle (by omega) (by omega)), e1, gI (show st - 1 < 120 by omega) (by decide), b2r, w1.1, nI_add]
    refine fin (f (st - 1) + x) (by have := w1.2; rw [show st - 1 + 1 = st by omega] at this; omega) (fun f' a1 a2 j hj => ?_)
    have := a2 j (st - 1) (by omega) (by omega)
    have q := (a1 (st - 1) (by omega))
    have q2 := q.1
    rw [w1.1, nI_eq (by have := w1.2; omega) (by have := q.2; omega)] at q2
    omega
theorem w_keep (h : RelW kw len E nm nc st ks km σ τ) : ∃ σ' τ', FX10_keep LF τ = some (nI st, τ') ∧ RelW kw len E nm nc st st (E.ct 0) σ' τ' ∧ hsC τ' = hsC τ ∧ τ'.2.2.2.1 = τ.2.2.2.1 ∧ τ'.1 2808 = τ.1 2808 ∧ (∀ i, i < st → τ'.2.2.1 51 i = τ.2.2.1 46 i) ∧ ∀ k i, k < E.ct 0 → i < st → τ'.2.2.2.2 1 k i = τ.2.2.2.2 0 k i := by
  obtain ⟨hT, hP, hH, hK, hM, hC, hA⟩ := id h
  obtain ⟨h1, h2, h3, h4, h5, h6, h7⟩ := id hH
  have c8 := hP.1.c8
  have q4 : τ.1 4403 = nI (E.ct 0) := hP.2.2.2.2.2.2.1
  obtain ⟨t, T, e, g1, g2⟩ := cKeepL (L := LF) c8 h1 (by decide) st 0 5000 (tI (tI τ 4902 (τ.1 4402)) 4903 (τ.1 4403)) (by omega) (by omega) (by rw [tI_o (by decide), tI_g]; exact h3) (by rw [tI_g]; exact q4)
  have e : FX0_copy LF τ = _ := e
  have x51 : (tT (tA (tI (tI τ 4902 (τ.1 4402)) 4903 (τ.1 4403)) 51 t) 1 T).2.2.1 51 = t := tA_row (σ := tI (tI τ 4902 (τ.1 4402)) 4903 (τ.1 4403)) (k := 51) (f := t)
  have x1 : (tT (tA (tI (tI τ 4902 (τ.1 4402)) 4903 (τ.1 4403)) 51 t) 1 T).2.2.2.2 1 = T := tT_row
  have k51 : ∀ i, i < st → t i = τ.2.2.1 46 i := fun i hi => by rw [g1 i, if_pos (by omega)]
  have kT : ∀ k i, k < E.ct 0 → i < st → T k i = τ.2.2.2.2 0 k i := fun k i hk hi => by rw [g2 k i, if_pos (by omega)]
  refine ⟨sB (sA (sI (sI σ 33 (σ.1 29)) 34 (σ.2.1 23 0)) 35 (va_cpy (σ.2.1 30) (σ.2.1 35) 0 0 120)) 36 (va_cpy (σ.2.2 31) (σ.2.2 36) 0 0 960), tT (tA (tI (tI τ 4902 (τ.1 4402)) 4903 (τ.1 4403)) 51 t) 1 T, ?_, ?_, rfl, rfl, rfl, fun i hi => by rw [x51]; exact k51 i hi, fun k i hk hi => by rw [x1]; exact kT k i hk hi⟩
  · rw [FX10_keep, e, b2r]
    have : (tT (tA (tI (tI τ 4902 (τ.1 4402)) 4903 (τ.1 4403)) 51 t) 1 T).1 4902 = nI st := by
      show (tI (tI τ 4902 (τ.1 4402)) 4903 (τ.1 4403)).1 4902 = _
      rw [tI_o (by decide), tI_g]; exact h3
    rw [this]
  · refine ⟨hT, hP, hH, ⟨h1, c8, ?_, ?_, ?_, ?_, ?_, fun i hi => ?_, fun k i hk hi => ?_⟩, hM, hC, hA⟩
    · show (sI (sI σ 33 (σ.1 29)) 34 (σ.2.1 23 0)).1 33 = _
      rw [sI_o (by decide), sI_g]; exact h2
    · show (tI (tI τ 4902 (τ.1 4402)) 4903 (τ.1 4403)).1 4902 = _
      rw [tI_o (by decide), tI_g]; exact h3
    · show (sI (sI σ 33 (σ.1 29)) 34 (σ.2.1 23 0)).1 34 = _
      rw [sI_g]; exact hP.2.2.1.2.2.1 0 (by decide)
    · show (tI (tI τ 4902 (τ.1 4402)) 4903 (τ.1 4403)).1 4903 = _
      rw [tI_g]; exact q4
    · rw [x51]
      obtain ⟨f, f1, f2⟩ := h4
      exact ⟨f, fun j hj => by rw [k51 j hj]; exact f1 j hj, f2⟩
    · rw [x51, k51 i hi]
      show (sA (sI (sI σ 33 (σ.1 29)) 34 (σ.2.1 23 0)) 35 (va_cpy (σ.2.1 30) (σ.2.1 35) 0 0 120)).2.1 35 i = τ.2.2.1 46 i
      rw [sA_row]
      unfold va_cpy
      rw [if_pos (by omega), show 0 + (i - 0) = i by omega]
      exact h5 i hi
    · rw [x1, kT k i hk hi, sB_row]
      show va_cpy (σ.2.2 31) (σ.2.2 36) 0 0 960 (8 * i + k) = τ.2.2.2.2 0 k i
      unfold va_cpy
      rw [if_pos (by omega), show 0 + (8 * i + k - 0) = 8 * i + k by omega]
      exact h6 k i (by omega) (by omega)
theorem w_back (h : RelW kw len E nm nc st ks km σ τ) {n : Nat} (hn : n ≤ st) : ∃ σ' v, FX10_back (nI n) τ = some (.inr v, tI τ 4402 (nI n)) ∧ RelW kw len E nm nc n ks km σ' (tI τ 4402 (nI n)) := by
  obtain ⟨hT, hP, hH, hK, hM, hC, hA⟩ := id h
  obtain ⟨h1, h2, h3, h4, h5, h6, h7⟩ := hH
  have rel : RelW kw len E nm nc n ks km (sI σ 29 (nI n)) (tI τ 4402 (nI n)) := ⟨hT, hP, ⟨by omega, sI_g, tI_g, h4.le hn, fun i hi => h5 i (by omega), h6, h7⟩, hK, hM.le hn, hC.le hn, hA.imp id (fun z => z.le hn)⟩
  rw [FX10_back, h3, if_neg (nI_pos (by omega)), if_pos (nI_le hn (by omega)), FX0_lastTime, tI_g]
  by_cases z : n = 0
  · subst z
    exact ⟨sI σ 29 (nI 0), 0, rfl, rel⟩
  · have e1 : nI n - 1 = nI (n - 1) := nI_sub (show 1 ≤ n by omega)
    rw [if_neg (nI_nle (by omega) (by omega)), e1, gI (show n - 1 < 120 by omega) (by decide), b2r]
    exact ⟨sI σ 29 (nI n), τ.2.2.1 46 (n - 1), rfl, rel⟩
/-- how many steps are good -/
def gdN (A : Nat → Int32) : Nat → Int32
  | 0 => 0
  | n+1 => if A n = 0 then gdN A n + 1 else gdN A n
/-- doing again what was kept under the same signals: a history G that the kept one is -/
theorem replayW {G : Hs} (hkm : km = E.ct 0) : ∀ (d i n : Nat) (σ : MS) (τ : CS), i + d = ks → d < n → RelW kw len E nm nc i ks km σ τ → (∀ j, j < ks → τ.2.2.1 51 j = G.1 j ∧ ∀ k, k < E.ct 0 → τ.2.2.2.2 1 k j = G.2 k j) → (∀ k j, E.ct 0 ≤ k → j < ks → τ.2.2.2.2 0 k j = G.2 k j) → (∀ j, j < i → τ.2.2.1 46 j = G.1 j ∧ ∀ k, k < E.ct 0 → τ.2.2.2.2 0 k j = G.2 k j) → (0 < i → ∀ k, k < E.ct 0 → τ.2.2.2.1 58 k = G.2 k (i - 1)) → ∃ σ' τ' r, FX10_replay_46 LF n (nI (E.ct 0)) (gdN (fun j => cnB (fun w => hoH E G w j) (E.ct 3)) i) (nI i) τ = some (.inr r, τ') ∧ r = gdN (fun j => cnB (fun w => hoH E G w j) (E.ct 3)) ks ∧ RelW kw len E nm nc ks ks km σ' τ' ∧ (∀ j, j < ks → (hsC τ').1 j = G.1 j ∧ ∀ k, (hsC τ').2 k j = G.2 k j) ∧ (0 < ks → ∀ k, k < E.ct 0 → τ'.2.2.2.1 58 k = G.2 k (ks - 1)) ∧ τ'.1 2808 = τ.1 2808
  | 0, i, n, σ, τ, hi, hn, h, hK1, hU, hD, hS => by
    obtain ⟨n, rfl⟩ : ∃ z, n = z + 1 := ⟨n - 1, by omega⟩
    obtain ⟨k1, k2, k3, k4, k5, k6, k7, k8, k9⟩ := id h.2.2.2.1
    have hi : i = ks := by omega
    subst hi
    refine ⟨σ, τ, _, ?_, rfl, h, fun j hj => ⟨(hD j hj).1, fun k => ?_⟩, hS, rfl⟩
    · rw [FX10_replay_46, k4, if_pos (nI_le (by omega) (by omega))]
    · by_cases z : k < E.ct 0
      · exact (hD j hj).2 k z
      · exact hU k j (by omega) hj
  | d+1, i, n, σ, τ, hi, hn, h, hK1, hU, hD, hS => by
    obtain ⟨n, rfl⟩ : ∃ z, n = z + 1 := ⟨n - 1, by omega⟩
    obtain ⟨hT, hP, hH, hK, hM, hC, hA⟩ := id h
    obtain ⟨k1, k2, k3, k4, k5, k6, k7, k8, k9⟩ := id hK
    obtain ⟨h1, h2, h3, h4, h5, h6, h7⟩ := id hH
    have c8 := hP.1.c8
    obtain ⟨F, e1, g1⟩ := cSetL (L := LF) (x2 := gdN (fun j => cnB (fun w => hoH E G w j) (E.ct 3)) i) (k46 := FX10_replay_46 LF n) c8 (show i < 120 by omega) (E.ct 0) 0 5000 τ (by omega) (by omega)
    have W : RelW kw len E nm nc i ks km (sB σ 32 F) (tB τ 58 F) := by
      refine ⟨hT, hP, ⟨h1, h2, h3, h4, h5, h6, fun k hk => ?_⟩, hK, hM, hC, hA⟩
      rw [sB_row, tB_row]
    have tm : TmOK (upd ((tB τ 58 F).2.2.1 46) i (τ.2.2.1 51 i)) (i + 1) := by
      obtain ⟨f, f1, f2⟩ := k7
      refine ⟨f, fun j hj => ?_, fun j k hjk hk => f2 j k hjk (by omega)⟩
      by_cases z : j = i
      · rw [z, upd_s]; exact f1 i (by omega)
      · rw [upd_n z]
        show τ.2.2.1 46 j = _ ∧ _
        rw [(hD j (by omega)).1, ← (hK1 j (by omega)).1]; exact f1 j (by omega)
    obtain ⟨σ3, τ3, r, s1, s2, s3, s4, s5, s6, s7, s8, s9, s10, s11, s12⟩ := stepBoth2 W (show i < 120 by omega) tm
    have sF : ∀ k, k < E.ct 0 → F k = G.2 k i := fun k hk => by rw [g1 k, if_pos (by omega)]; exact (hK1 i (by omega)).2 k hk
    have K1' : ∀ j, j < ks → τ3.2.2.1 51 j = G.1 j ∧ ∀ k, k < E.ct 0 → τ3.2.2.2.2 1 k j = G.2 k j := fun j hj => ⟨by rw [s7]; exact (hK1 j hj).1, fun k hk => by rw [s10]; exact (hK1 j hj).2 k hk⟩
    have U' : ∀ k j, E.ct 0 ≤ k → j < ks → τ3.2.2.2.2 0 k j = G.2 k j := fun k j hk hj => by rw [s9 k j, if_neg (by omega)]; exact hU k j hk hj
    have D' : ∀ j, j < i + 1 → τ3.2.2.1 46 j = G.1 j ∧ ∀ k, k < E.ct 0 → τ3.2.2.2.2 0 k j = G.2 k j := fun j hj => by
      refine ⟨?_, fun k hk => ?_⟩
      · rw [s6]
        by_cases z : j = i
        · rw [z, upd_s]; exact (hK1 i (by omega)).1
        · rw [upd_n z]; exact (hD j (by omega)).1
      · rw [s9 k j]
        by_cases z : j = i
        · rw [if_pos (by omega), z]
          show va_up τ.2.2.2.1 58 F 58 k = _
          rw [up_s]; exact sF k hk
        · rw [if_neg (by omega)]; exact (hD j (by omega)).2 k hk
    have S' : 0 < i + 1 → ∀ k, k < E.ct 0 → τ3.2.2.2.1 58 k = G.2 k (i + 1 - 1) := fun _ k hk => by
      rw [s8, show i + 1 - 1 = i by omega]
      show va_up τ.2.2.2.1 58 F 58 k = _
      rw [up_s]; exact sF k hk
    have hr : r = cnB (fun w => hoH E G w i) (E.ct 3) := by
      rw [s12]
      refine cnB_congr (E.ct 3) (fun w hw => ?_)
      show nzV ((E.dn 3 w).1 (hsC τ3) i) = nzV ((E.dn 3 w).1 G i)
      rw [w_dn s4 (s := 3) (by decide) (by decide) hw (g' := G) (fun j hj => ⟨(D' j (by omega)).1, fun k => by
        by_cases z : k < E.ct 0
        · exact (D' j (by omega)).2 k z
        · exact U' k j (by omega) (by omega)⟩)]
    have e1 : FX10_replay_60 LF (FX10_replay_46 LF n) LF (nI (E.ct 0)) (gdN (fun j => cnB (fun w => hoH E G w j) (E.ct 3)) i) (nI i) 0 τ = _ := e1
    have ih := replayW (G := G) hkm d (i + 1) n σ3 τ3 (by omega) (by omega) s4 K1' U' D' S'
    obtain ⟨σ', τ', r', a1, a2, a3, a4, a5, a6⟩ := ih
    refine ⟨σ', τ', r', ?_, a2, a3, a4, a5, a6.trans s11⟩
    rw [FX10_replay_46, k4, if_neg (by rw [nI_leI (by omega) (by omega)]; omega), e1, s1, b2r, s2, b2r]
    rw [gdN] at a1
    rw [hr]
    by_cases z : cnB (fun w => hoH E G w i) (E.ct 3) = 0
    · rw [if_pos z]
      rw [if_pos z] at a1
      exact a1
    · rw [if_neg z]
      rw [if_neg z] at a1
      exact a1
theorem w_replay {G : Hs} (h : RelW kw len E nm nc st ks (E.ct 0) σ τ) (hp : ¬ τ.1 2808 = 0) (hK1 : ∀ j, j < ks → τ.2.2.1 51 j = G.1 j ∧ ∀ k, k < E.ct 0 → τ.2.2.2.2 1 k j = G.2 k j) (hU : ∀ k j, E.ct 0 ≤ k → j < ks → τ.2.2.2.2 0 k j = G.2 k j) : ∃ σ' τ', FX10_replay LF τ = some (.inr (gdN (fun j => cnB (fun w => hoH E G w j) (E.ct 3)) ks), τ') ∧ RelW kw len E nm nc ks ks (E.ct 0) σ' τ' ∧ (∀ j, j < ks → (hsC τ').1 j = G.1 j ∧ ∀ k, (hsC τ').2 k j = G.2 k j) ∧ (0 < ks → ∀ k, k < E.ct 0 → τ'.2.2.2.1 58 k = G.2 k (ks - 1)) := by
  have hP := h.2.1
  have ks120 := h.2.2.2.1.1
  have c8 := hP.1.c8
  obtain ⟨τ1, e1, g1⟩ := cBegin (τ := τ) (show 2000 ≤ LF by decide)
  obtain ⟨σ1, e2, g2⟩ := rBegin (σ := sI σ 0 0) (c := E.ct 0) (show 1000 ≤ LF by decide) hP.1.c8 (hP.2.2.1.2.2.1 0 (by decide))
  have W := (h.s0 (v := 0)).bg g1 g2
  obtain ⟨k1, k2, k3, k4, k5, k6, k7, k8, k9⟩ := id W.2.2.2.1
  have q4 : τ1.1 4403 = nI (E.ct 0) := W.2.1.2.2.2.2.2.2.1
  obtain ⟨c1, c2, c3, c4, c5, c6, c7, c8'⟩ := id g1
  obtain ⟨σ3, τ3, r, a1, a2, a3, a4, a5, a6⟩ := replayW (G := G) (ks := ks) (km := E.ct 0) (E := E) rfl ks 0 5000 σ1 τ1 (by omega) (by omega) W (fun j hj => by rw [c3, c5]; exact hK1 j hj) (fun k j hk hj => by rw [c5]; exact hU k j hk hj) (fun j hj => absurd hj (Nat.not_lt_zero _)) (fun z => absurd z (Nat.lt_irrefl _))
  refine ⟨σ3, τ3, ?_, a3, a4, a5⟩
  rw [FX10_replay, if_neg hp, e1, b2r, q4, k6, nI_min (by omega) (by omega), Nat.min_self, ← a2]
  exact a1
/-- compiling a text without an error -/
theorem w_compile {k' : Nat} {E' : EnvN} (hkw : kwOK kw) (h : RelW kw len E nm nc st ks km σ τ) (hr : pgm (tkT kw (τ.2.2.1 3) len) 401 (.ok EnvN.none) 0 = some (k', some (.ok E'))) : ∃ σ' τ' nm' nc', FX10_compile LF τ = some (0, τ') ∧ RelW kw 0 E' nm' nc' 0 ks km σ' τ' ∧ τ'.1 2808 = 1 := by
  obtain ⟨hT, hP, hH, hK, hM, hC, hA⟩ := id h
  obtain ⟨t1, t2, t3, t4, t5, t6⟩ := hT
  obtain ⟨⟨err, σ', e1, g1⟩, hN⟩ := rCompile hkw t4 t2 t5 hr
  obtain ⟨err2, τ', e2, g2⟩ := cCompile (L := LF) (by decide) t4 t1 t3 rfl hN hr
  obtain ⟨m1, m2, m3, m4, m5, m6⟩ := g1
  obtain ⟨c1, c2, c3, c4, c5⟩ := g2
  obtain ⟨y1, y2, y3, y4, y5, y6, y7, nm', y8, y9, y10, y11, y12⟩ := m6
  obtain ⟨z1, z2, z3, z4, z5, z6, z7, z8, nc', z9, w1, w2, w3, w4⟩ := c5
  have lv : LvE E' := pgmLv (fun k hk => tkNum t4 hk) 401 _ 0 k' E' hr (fun E0 e => by
    have e := Except.ok.inj e
    subst e
    exact fun i => (by decide : ¬ (0 : Int32) < 0))
  exact ⟨σ', τ', nm', nc', by rw [e2, z1], relCm h c1 m1 ⟨y5, lv, y12, w4, ⟨y8, by omega, y10, y11⟩, ⟨z9, by omega, w2, w3⟩, z7, y3.trans z3.symm⟩ c2 c3 c4 m3 m4 m5 (y2.trans z2.symm) (fun k hk => (y7 k hk).trans (z8 k hk).symm), z3⟩
theorem w_compileE {k' : Nat} {e : En} (hkw : kwOK kw) (h : RelW kw len E nm nc st ks km σ τ) (hr : pgm (tkT kw (τ.2.2.1 3) len) 401 (.ok EnvN.none) 0 = some (k', some (.error e))) : ∃ τ', FX10_compile LF τ = some (e.1, τ') := by
  obtain ⟨hT, hP, hH, hK, hM, hC, hA⟩ := id h
  obtain ⟨t1, t2, t3, t4, t5, t6⟩ := hT
  obtain ⟨-, hN⟩ := rCompile hkw t4 t2 t5 hr
  obtain ⟨err2, τ', e2, g2⟩ := cCompile (L := LF) (by decide) t4 t1 t3 rfl hN hr
  obtain ⟨c1, c2, c3, c4, c5⟩ := g2
  exact ⟨τ', by rw [e2, c5.1]⟩
end RG2
section AK2
variable {σ : MS} {τ : CS} {kw : Nat → Int64} {len nm nc st ks km : Nat} {E : EnvN}
/-- asking a formula without an error -/
theorem w_ask {k' : Nat} {D : Den} (hkw : kwOK kw) (h : RelW kw len E nm nc st ks km σ τ) (hr : qst (cxE (tkT kw (τ.2.2.1 3) len) (.ok E)) = some (k', some (.ok D))) : ∃ σ' τ', FX10_ask LF τ = some (0, τ') ∧ RelW kw 0 E nm nc st ks km σ' τ' ∧ hsC τ' = hsC τ ∧ ∀ i, i < st → FX10_answer (nI i) τ' = some (.inr (bI (nzV (D.1 (hsC τ') i))), τ') := by
  have hW := h
  obtain ⟨hT, hP, hH, hK, hM, hC, hA⟩ := id hW
  have nc400 : nc ≤ 400 := hP.2.2.2.2.2.1.2.1
  have nm400 : nm ≤ 400 := hP.2.2.2.2.1.2.1
  -- where the reference reads, and where the class reads
  have hfr : ∃ fr, ((σ.1 28 = -1 ∧ fr = nm) ∨ (¬ σ.1 28 = -1 ∧ σ.1 40 = nI fr)) ∧ nm ≤ fr ∧ fr ≤ nm + 400 ∧ ∀ na qm, AskM nm na qm σ → na = fr := by
    rcases hA with ⟨a1, a2, a3⟩ | ⟨a0, p0, ne, qc, na, qm, b, ⟨d1, d2, d3, d4, d5, d6, d7⟩, e⟩
    · refine ⟨nm, Or.inl ⟨a1, rfl⟩, Nat.le_refl _, by omega, fun na qm hq => ?_⟩
      obtain ⟨d1, d2, d3, d4, d5, d6, d7⟩ := hq
      have := (d6 qm d5).1
      rw [a1] at d3
      exact absurd d3.symm (nI_n1 (by omega))
    · have := (d6 qm d5).1
      refine ⟨na, Or.inr ⟨by rw [d3]; exact nI_n1 (by omega), d4⟩, d1, d2, fun na' qm' hq => ?_⟩
      obtain ⟨d1', d2', d3', d4', d5', d6', d7'⟩ := hq
      rw [d4] at d4'
      exact ((nI_eq (by omega) (by omega)).mp d4').symm
  obtain ⟨fr, hf, hf1, hf2, hf3⟩ := hfr
  obtain ⟨⟨err, σ1, e1, g1, -⟩, hN⟩ := rAsk hkw hW hr hf hf1 hf2
  have hp : ∃ p0, (p0 = 400 ∨ p0 = 800) ∧ FX10_ask LF τ = FX10_ask_19 LF (nI p0) τ ∧ ∀ p, (p = 400 ∨ p = 800) → τ.1 12 = nI p → p ≠ p0 := by
    have e12 : τ.1 12 = nI 400 ∨ τ.1 12 = nI 800 := by
      rcases hA with hA | ⟨-, p0, ne, qc, na, qm, hq, -⟩
      · exact hA.2.2
      · rw [hq.2.2.2.1]
        rcases hq.1 with z | z
        · left; rw [z]
        · right; rw [z]
    rcases e12 with z | z
    · refine ⟨800, Or.inr rfl, ?_, fun p hp' e => ?_⟩
      · rw [FX10_ask, if_pos (by rw [z]; decide)]; rfl
      · rw [z, nI_eq (by decide) (by omega)] at e; omega
    · refine ⟨400, Or.inl rfl, ?_, fun p hp' e => ?_⟩
      · rw [FX10_ask, if_neg (by rw [z]; decide)]; rfl
      · rw [z, nI_eq (by decide) (by omega)] at e; omega
  obtain ⟨p0, hp1, hp2, hp3⟩ := hp
  obtain ⟨err2, τ1, e2, g2⟩ := cAsk hW hN hr hp1
  obtain ⟨m1, m2, m3⟩ := g1
  obtain ⟨c1, c2, c3⟩ := g2
  have hncp : nc ≤ p0 := by omega
  obtain ⟨y1, y2, na, qm, y3, y4⟩ := m3
  obtain ⟨z1, z2, z3, z4, ne, qc, z5, z6⟩ := c3
  have W' : RelW kw 0 E nm nc st ks km σ1 τ1 := hW.ask m1 c1 hncp m2 c2 (y2.trans z2.symm) z4 (Or.inr ⟨z3, p0, ne, qc, na, qm, z5, y3, y4.trans z6.symm⟩)
  refine ⟨σ1, τ1, by rw [hp2, e2, z1], W', ?_, fun i hi => ?_⟩
  · show (τ1.2.2.1 46, fun k i => τ1.2.2.2.2 0 k i) = (τ.2.2.1 46, fun k i => τ.2.2.2.2 0 k i)
    rw [c1.2.1 46 (nNRd (by decide)) (by decide) (by decide), c1.2.2.2.2 0 (by decide)]
  · obtain ⟨b1, b2', b3, b4, b5, b6, b7, b8, b9, b10⟩ := z5
    have h120 := hH.1
    have hqc : qc < 1200 := b7.elim (fun z => by have z : qc < nc := z; omega) (fun z => by omega)
    have ev : cellC τ1 qc i = D.1 (hsC τ1) i := by
      rw [b10 qc b7 i hi, ← z6]; rfl
    rw [FX10_answer, w_step W' hi, b2r, if_neg (by decide), if_neg (by rw [z3]; decide), b6, gTc hqc (by omega), ev, ifsome, nz0]
end AK2
