-- the law holds
theorem cmp13 : ∀ a, a < 13 → ∀ b, b < 13 → b ≠ 0 → Op.cmpValue (FP.dcmp (FP.ddiv (FP.i2d (nI a)) (FP.i2d (nI b))) (FP.ddiv (FP.i2d (nI a)) (FP.i2d (nI b)))) CmpOp.l = 0 := by decide +kernel
theorem b2o {α β γ : Type} (v : α) (s : β) (f : α → β → Option γ) : b2 (some ((Sum.inr v : Nat ⊕ α), s)) (fun o τ => (oRt o).bind fun r => f r τ) = f v s := rfl
theorem fin_eq : ∀ a b, SB 93 ++ ([dgt a] ++ (SB 94 ++ ([dgt b] ++ SB 95))) = (tFf ++ gLs a) ++ ((tGg ++ gLs b) ++ tZz) := fun _ _ => rfl
theorem fin_0 : ∀ m, m < 7 → (TK (finT m) 0).1 ≠ 53 := by decide +kernel
section LH
variable {σ : LwS} {τ : CS} {kw : Nat → Int64} {len nm nc st ks km m j N n : Nat} {E : EnvN} {σm : MS} {xs : Nat → Int32} {A : Nat → Int32} {B : Nat → Bool} {k127 : Int32 → Int32 → Int32 → LwS → Option (Int32 × LwS)} {x6 x9 x10 y : Int32} {f g p q : Bool}
theorem tMi_n : ∀ n, ∃ t, t ≤ n ∧ tMi B n = nI t
  | 0 => ⟨0, Nat.le_refl _, rfl⟩
  | n+1 => by
    obtain ⟨t, h, e⟩ := tMi_n n
    rw [tMi]
    by_cases z : B n = true
    · rw [if_pos z]; exact ⟨t, by omega, e⟩
    · rw [if_neg z, e]; exact ⟨t + 1, by omega, nI_add t 1⟩
theorem gd_mi : ∀ n, (∀ j, j < n → A j = if B j = true then 0 else 2) → gdN A n + tMi B n = nI n
  | 0, _ => by show (0 : Int32) + 0 = nI 0; decide
  | n+1, h => by
    have ih := gd_mi n (fun j hj => h j (by omega))
    have hn := h n (Nat.lt_succ_self n)
    rw [gdN, tMi]
    by_cases z : B n = true
    · rw [if_pos z] at hn
      rw [if_pos hn, if_pos z, nI_succ, ← ih, Int32.add_assoc, Int32.add_comm 1, ← Int32.add_assoc]
    · rw [if_neg z] at hn
      have h0 : ¬ A n = 0 := by rw [hn]; decide
      rw [if_neg h0, if_neg z, nI_succ, ← ih, Int32.add_assoc]
theorem gd_sub (n : Nat) (h : ∀ j, j < n → A j = if B j = true then 0 else 2) : gdN A n = nI n - tMi B n := by
  rw [← gd_mi n h, Int32.add_sub_cancel]
theorem ll (hR : RelW kw len E nm nc st ks km σm τ) (h : SemE m E) (a : Nat) (ha : a < 7) (hj : j < st) : FX10_let (nI m + nI a) (nI j) τ = some (.inr (bI (hoL E (hsC τ) (m + a) j)), τ) := by
  rw [nI_add]
  exact w_let hR (by rw [h.2.1]; omega) hj
theorem wt (hR : RelW kw len E nm nc st ks km σm τ) (h : SemE m E) (hj : j < st) : FX10_watch 0 (nI j) τ = some (.inr (bI (hoL E (hsC τ) (m + 3) j)), τ) ∧ FX10_watch 1 (nI j) τ = some (.inr (bI (hoL E (hsC τ) (m + 3) j)), τ) := by
  have a := w_watch hR (n := 0) (by rw [h.2.2.1]; decide) hj
  have b := w_watch hR (n := 1) (by rw [h.2.2.1]; decide) hj
  rw [sem_w h] at a
  rw [sem_z h] at b
  exact ⟨a, b⟩
theorem cn2 (h : SemE m E) {G : Hs} : cnB (fun w => hoH E G w j) (E.ct 3) = if hoL E G (m + 3) j = true then 0 else 2 := by
  rw [h.2.2.1]
  show (if hoH E G 1 j = true then (if hoH E G 0 j = true then (0 : Int32) else 0 + 1) else (if hoH E G 0 j = true then (0 : Int32) else 0 + 1) + 1) = _
  rw [sem_w h, sem_z h]
  cases hoL E G (m + 3) j <;> decide
theorem s428 (hR : RelW kw len E nm nc st ks km σm σ.1) (h : SemE m E) {x4 x7 : Int32} : FL_law_428 LF N xs k127 x4 x6 x7 y y σ = k127 x4 x6 (x7 + 1) σ := by
  have e : FX10_differ LF 0 1 σ.1 = _ := w_differ hR (n := 0) (m := 1) (by rw [h.2.2.1]; decide) (by rw [h.2.2.1]; decide)
  have e2 := dfW_eq (A := hoW E σ.1 0) (B := hoW E σ.1 1) st 0 (fun i _ _ => by
    show hoH E (hsC σ.1) 0 i = hoH E (hsC σ.1) 1 i
    rw [sem_w h, sem_z h])
  rw [FL_law_428, if_pos rfl, e, b2o, if_pos e2]
theorem s363 (hR : RelW kw len E nm nc st ks km σm σ.1) (h : SemE m E) (hj : j < st) (hp : p = hoL E (hsC σ.1) (m + 3) j) (h9 : x9 = if p = true then 0 else 2) (y : Int32) : FL_law_363 LF N xs k127 (nI m) x6 (nI j) x9 (bI p) y y σ = k127 (nI m) x6 (nI j + 1) σ := by
  have l5 : FX10_let (nI m + 5) (nI j) σ.1 = _ := ll hR h 5 (by decide) hj
  have l6 : FX10_let (nI m + 6) (nI j) σ.1 = _ := ll hR h 6 (by decide) hj
  obtain ⟨w0, w1⟩ := wt hR h hj
  have ne : ¬ bI (hoL E (hsC σ.1) (m + 5) j) = bI (hoL E (hsC σ.1) (m + 6) j) := by
    rw [sem_uv h]; cases hoL E (hsC σ.1) (m + 6) j <;> decide
  rw [← hp] at w0 w1
  rw [FL_law_363, if_pos rfl, l5, b2o, l6, b2o, if_neg ne, w0, b2o, if_pos rfl, w1, b2o, if_pos rfl]
  cases p with
  | false =>
    have h9 : x9 = 2 := h9
    rw [if_pos (show bI false = 0 from rfl), h9]
    exact s428 hR h
  | true =>
    have h9 : x9 = 0 := h9
    rw [if_neg (show ¬ bI true = 0 by decide), h9]
    exact s428 hR h
theorem nj0 (h0 : j ≠ 0) (h : j < 2 ^ 31) : ¬ nI j ≤ (0 : Int32) := fun c => by
  have := (nI_leI (a := j) (b := 0) h (by decide)).mp c
  omega
theorem nj1 (h0 : j ≠ 0) : nI j - 1 = nI (j - 1) := nI_sub (a := j) (b := 1) (by omega)
theorem lp (hR : RelW kw len E nm nc st ks km σm τ) (h : SemE m E) (a : Nat) (ha : a < 7) (hj : j < st) (z : j ≠ 0) : FX10_let (nI m + nI a) (nI j - 1) τ = some (.inr (bI (hoL E (hsC τ) (m + a) (j - 1))), τ) := by
  rw [nj1 z]
  exact ll hR h a ha (by omega)
theorem s321 (hR : RelW kw len E nm nc st ks km σm σ.1) (h : SemE m E) (hj : j < st) (hf : f = hoL E (hsC σ.1) m j) (hg : g = hoL E (hsC σ.1) (m + 1) j) (hp : p = hoL E (hsC σ.1) (m + 3) j) (hq : q = hoL E (hsC σ.1) (m + 4) j) (h9 : x9 = if p = true then 0 else 2) (y : Int32) : FL_law_321 LF N xs k127 (nI m) x6 (nI j) x9 (bI f) (bI g) (bI p) (bI q) y y σ = k127 (nI m) x6 (nI j + 1) σ := by
  have S := sem_q h (g := hsC σ.1) (i := j)
  rw [← hf, ← hg, ← hq] at S
  have h120 : st ≤ 120 := hR.2.2.1.1
  have F := fun y => s363 (N := N) (xs := xs) (k127 := k127) (x6 := x6) hR h hj hp h9 y
  rw [FL_law_321, if_pos rfl]
  cases g with
  | true =>
    have e : q = true := S
    subst e
    rw [if_neg (show ¬ bI true = 0 by decide)]
    exact F 1
  | false =>
    rw [if_pos (show bI false = 0 from rfl)]
    cases f with
    | false =>
      have e : q = false := S
      subst e
      rw [if_pos (show bI false = 0 from rfl)]
      exact F 0
    | true =>
      rw [if_neg (show ¬ bI true = 0 by decide)]
      by_cases z : j = 0
      · subst z
        have e : q = false := S
        subst e
        rw [if_pos (show nI 0 ≤ (0 : Int32) by decide)]
        exact F 0
      · have l4 : FX10_let (nI m + 4) (nI j - 1) σ.1 = _ := lp hR h 4 (by decide) hj z
        rw [decide_eq_true (show 0 < j by omega)] at S
        have S : q = hoL E (hsC σ.1) (m + 4) (j - 1) := S
        rw [if_neg (nj0 z (by omega)), l4, b2o, ← S]
        cases q with
        | false => rw [if_pos (show bI false = 0 from rfl)]; exact F 0
        | true => rw [if_neg (show ¬ bI true = 0 by decide)]; exact F 1
theorem s286 (hR : RelW kw len E nm nc st ks km σm σ.1) (h : SemE m E) (hj : j < st) (hf : f = hoL E (hsC σ.1) m j) (hg : g = hoL E (hsC σ.1) (m + 1) j) (hp : p = hoL E (hsC σ.1) (m + 3) j) (hq : q = hoL E (hsC σ.1) (m + 4) j) (h9 : x9 = if p = true then 0 else 2) (y : Int32) : FL_law_286 LF N xs k127 (nI m) x6 (nI j) x9 (bI f) (bI g) (bI p) (bI q) y y σ = k127 (nI m) x6 (nI j + 1) σ := by
  have S := sem_p h (g := hsC σ.1) (i := j)
  rw [← hf, ← hp] at S
  have h120 : st ≤ 120 := hR.2.2.1.1
  have F := fun y => s321 (N := N) (xs := xs) (k127 := k127) (x6 := x6) hR h hj hf hg hp hq h9 y
  rw [FL_law_286, if_pos rfl]
  cases f with
  | false =>
    have e : p = false := S
    subst e
    rw [if_pos (show bI false = 0 from rfl)]
    exact F 0
  | true =>
    rw [if_neg (show ¬ bI true = 0 by decide)]
    by_cases z : j = 0
    · subst z
      have e : p = true := S
      subst e
      rw [if_pos (show nI 0 = 0 from rfl)]
      exact F 1
    · have l3 : FX10_let (nI m + 3) (nI j - 1) σ.1 = _ := lp hR h 3 (by decide) hj z
      rw [decide_eq_false z] at S
      have S : p = hoL E (hsC σ.1) (m + 3) (j - 1) := S
      rw [if_neg (nI_ne0 (by omega) (by omega)), l3, b2o, ← S]
      cases p with
      | false => rw [if_pos (show bI false = 0 from rfl)]; exact F 0
      | true => rw [if_neg (show ¬ bI true = 0 by decide)]; exact F 1
theorem sAll (hR : RelW kw len E nm nc st ks km σm σ.1) (h : SemE m E) (hj : j < st) (hf : f = hoL E (hsC σ.1) m j) (hg : g = hoL E (hsC σ.1) (m + 1) j) (hp : p = hoL E (hsC σ.1) (m + 3) j) (hq : q = hoL E (hsC σ.1) (m + 4) j) (h9 : x9 = if p = true then 0 else 2) : (if bI f = 0 then
        if nI j ≤ 0 then
          FL_law_285 LF N xs k127 (nI m) x6 (nI j) x9 (bI f) (bI g) (bI p) (bI q) (bI (hoL E (hsC σ.1) (m + 2) j)) σ
        else
          b2 (FX10_let (nI m + 2) (nI j - 1) σ.1) fun o_82 τ_82 => (oRt o_82).bind fun r_82 =>
          if r_82 = 0 then
            FL_law_285 LF N xs k127 (nI m) x6 (nI j) x9 (bI f) (bI g) (bI p) (bI q) (bI (hoL E (hsC σ.1) (m + 2) j)) (rC σ τ_82)
          else
            FL_law_281 LF N xs k127 (nI m) x6 (nI j) x9 (bI f) (bI g) (bI p) (bI q) (bI (hoL E (hsC σ.1) (m + 2) j)) (rC σ τ_82)
      else
        FL_law_281 LF N xs k127 (nI m) x6 (nI j) x9 (bI f) (bI g) (bI p) (bI q) (bI (hoL E (hsC σ.1) (m + 2) j)) σ) = k127 (nI m) x6 (nI j + 1) σ := by
  have S := sem_h h (g := hsC σ.1) (i := j)
  rw [← hf] at S
  have h120 : st ≤ 120 := hR.2.2.1.1
  have F := fun y => s286 (N := N) (xs := xs) (k127 := k127) (x6 := x6) hR h hj hf hg hp hq h9 y
  generalize hoL E (hsC σ.1) (m + 2) j = v at S ⊢
  cases f with
  | true =>
    have e : v = true := S
    subst e
    rw [if_neg (show ¬ bI true = 0 by decide)]
    exact F 1
  | false =>
    rw [if_pos (show bI false = 0 from rfl)]
    by_cases z : j = 0
    · subst z
      have e : v = false := S
      subst e
      rw [if_pos (show nI 0 ≤ (0 : Int32) by decide)]
      exact F 0
    · have l2 : FX10_let (nI m + 2) (nI j - 1) σ.1 = _ := lp hR h 2 (by decide) hj z
      rw [decide_eq_true (show 0 < j by omega)] at S
      have S : v = hoL E (hsC σ.1) (m + 2) (j - 1) := S
      rw [if_neg (nj0 z (by omega)), l2, b2o, ← S]
      cases v with
      | false => rw [if_pos (show bI false = 0 from rfl)]; exact F 0
      | true => rw [if_neg (show ¬ bI true = 0 by decide)]; exact F 1
theorem l552 (h : SemE m E) (hst0 : 0 < st) (hst : st ≤ 12) : ∀ (d i q : Nat) (σ : LwS), i + d = st → d < q → RelW kw len E nm nc st ks km σm σ.1 → x10 = nI st - tMi (hoW E σ.1 0) st → (∀ i, i < st → FX10_answer (nI i) σ.1 = some (.inr (bI (hoL E (hsC σ.1) (m + 4) i && hoL E (hsC σ.1) (m + 5) i)), σ.1)) → ∃ σ', FL_law_552 LF N xs q (nI m) (nI st) x10 (nI i) σ = some (1, σ')
  | 0, i, q, σ, hi, hq, hR, hx, hA => by
    obtain ⟨q, rfl⟩ : ∃ z, q = z + 1 := ⟨q - 1, by omega⟩
    have hi : i = st := by omega
    subst hi
    obtain ⟨s1, s2⟩ := w_share hR (n := 0) (by rw [h.2.2.1]; decide) (by omega)
    have s1 : FX10_share LF 0 σ.1 = _ := s1
    rw [← hx] at s1 s2
    obtain ⟨t, ht, et⟩ := tMi_n (B := hoW E σ.1 0) i
    have hx2 : x10 = nI (i - t) := by rw [hx, et, nI_sub ht]
    have s3 : Op.cmpValue (FP.dcmp (FP.ddiv (FP.i2d x10) (FP.i2d (nI i))) (FP.ddiv (FP.i2d x10) (FP.i2d (nI i)))) CmpOp.l = 0 := by
      rw [hx2]; exact cmp13 (i - t) (by omega) i (by omega) (by omega)
    rw [FL_law_552, if_pos (nI_le (Nat.le_refl _) (by omega)), s1, b2o, if_neg s2, if_pos s3]
    exact ⟨_, rfl⟩
  | d+1, i, q, σ, hi, hq, hR, hx, hA => by
    obtain ⟨q, rfl⟩ : ∃ z, q = z + 1 := ⟨q - 1, by omega⟩
    have l4 : FX10_let (nI m + 4) (nI i) σ.1 = _ := ll hR h 4 (by decide) (by omega)
    have l5 : FX10_let (nI m + 5) (nI i) σ.1 = _ := ll hR h 5 (by decide) (by omega)
    have go := l552 h hst0 hst d (i + 1) q σ (by omega) (by omega) hR hx hA
    rw [nI_succ] at go
    rw [FL_law_552, if_neg (by rw [nI_leI (by omega) (by omega)]; omega), hA i (by omega), b2o, l4, b2o]
    cases hoL E (hsC σ.1) (m + 4) i with
    | false =>
      rw [if_pos (show bI false = 0 from rfl), if_pos (show bI (false && hoL E (hsC σ.1) (m + 5) i) = 0 from rfl)]
      exact go
    | true =>
      rw [if_neg (show ¬ bI true = 0 by decide), l5, b2o]
      cases hoL E (hsC σ.1) (m + 5) i with
      | false =>
        rw [if_pos (show bI false = 0 from rfl), if_pos (show bI (true && false) = 0 from rfl)]
        exact go
      | true =>
        rw [if_neg (show ¬ bI true = 0 by decide), if_pos (show bI (true && true) = 1 from rfl)]
        exact go
theorem suf_rw {F : Nat → Int32} {l : List Int32} (h1 : ∀ i, i < l.length → F i = l.getD i 0) (h2 : OkL l) : Suf F l.length 0 l := ⟨Nat.zero_add _, fun i hi => by rw [Nat.zero_add]; exact h1 i hi, h2.n1⟩
theorem fin127 (hkw : kwOK kw) (hN : N ≤ 260) (h : SemE m E) (hst0 : 0 < st) (hst : st ≤ 12) {q : Nat} (hR : RelW kw 0 E nm nc st ks km σm σ.1) (hp : ¬ σ.1.1 2808 = 0) (hset : ∀ k, k < 2 → σ.1.2.2.2.1 58 k = σ.1.2.2.2.2 0 k (st - 1)) : ∃ σ', FL_law_127 LF N xs (q + 1) (nI m) (nI st) (nI st) σ = some (1, σ') := by
  obtain ⟨σm1, τ1, k1, k2, k3, k4, k5, k6, k7⟩ := w_keep hR
  have d1 := w_digest k2
  obtain ⟨v, ev⟩ := cell_ok (N := N) (xs := xs) hN (k := 14) (by decide)
  have ev : FL_cell N xs 14 = some v := ev
  obtain ⟨j, hj, ej⟩ := below_ok v (n := st) hst0 (by omega)
  obtain ⟨σm2, v2, b1, bR⟩ := w_back k2 (n := j) (by omega)
  obtain ⟨σm3, τ3, r1, r2, r3, r4⟩ := w_replay (G := hsC τ1) bR (by rw [tI_o (by decide), k5]; exact hp) (fun x hx => ⟨by rw [k3]; exact k6 x hx, fun k hk => by rw [k3]; exact k7 k x hk hx⟩) (fun k x _ _ => rfl)
  have t1 : FX10_told LF 0 1 τ3 = _ := w_told1 r2 (n := 0) (by rw [h.2.2.1]; decide)
  have c4 := w_count4 r2
  have d3 := w_digest r2
  have dd : digV E τ3 0 st st = digV E τ1 0 st st := w_dsame k2 r2 r3 (fun k hk => (r4 hst0 k hk).trans (by
    rw [k3, k4, hset k (by rw [h.1] at hk; exact hk)]
    rfl))
  have gm : gdN (fun j => cnB (fun w => hoH E (hsC τ1) w j) (E.ct 3)) st = nI st - tMi (hoW E τ3 0) st := gd_sub st (fun x hx => by
    show cnB (fun w => hoH E (hsC τ1) w x) (E.ct 3) = if hoH E (hsC τ3) 0 x = true then 0 else 2
    have e : hoL E (hsC τ1) (m + 3) x = hoL E (hsC τ3) (m + 3) x := by
      unfold hoL
      rw [w_dn r2 (s := 1) (n := m + 3) (i := x) (by decide) (by decide) (by rw [h.2.1]; omega) (g := hsC τ1) (g' := hsC τ3) (fun y hy => ⟨(r3 y (by omega)).1.symm, fun k => ((r3 y (by omega)).2 k).symm⟩)]
    rw [cn2 h, sem_w h, e])
  have w0 : Rw ((rR (rC σ τ3) 0 (upd (σ.2 0) 0 0)).2 0) [] := by
    rw [rR_g]
    exact ⟨upd_s, Nat.zero_le _, fun i hi => absurd hi (Nat.not_lt_zero _), fun x hx => absurd hx List.not_mem_nil⟩
  obtain ⟨σ5, p1, p2, p3⟩ := put_ok w0 (w := 96) (by decide) (by decide) (by decide)
  have p3 : Rw (σ5.2 0) tQu := p3
  have r5 : RelW kw 0 E nm nc st st (E.ct 0) σm3 σ5.1 := by rw [p2]; exact r2
  obtain ⟨σ6, σm6, a1, a2, a3, a4, a5⟩ := lay_ok p3 p3.2.2.2.b r5
  have hT : TkB (tkT kw (σ6.1.2.2.1 3) tQu.length) tQu := fun n => tk_at hkw (suf_rw a4 p3.2.2.2) n
  obtain ⟨k', D, q1, q2⟩ := q_law h hT
  obtain ⟨σm7, τ7, s1, s2, s3, s4⟩ := w_ask hkw a3 q1
  have hh : hsC τ7 = hsC τ3 := s3.trans (a5.1.trans (by rw [p2]))
  have hx : nI st - tMi (hoW E τ3 0) st = nI st - tMi (hoW E τ7 0) st := by
    have : hoW E τ7 0 = hoW E τ3 0 := by funext i; unfold hoW; rw [hh]
    rw [this]
  rw [FL_law_127, if_pos (nI_le (Nat.le_refl _) (by omega)), k1, b2r, d1, b2r, ev, obS, ej, obS, b1, b2o, r1, b2o, t1, b2o, if_pos gm, c4, b2o, if_pos rfl, d3, b2r, if_pos dd, if_neg z0R]
  show ∃ σ', b2 (FL_put LF 96 (rR (rC σ τ3) 0 (upd (σ.2 0) 0 0))) _ = some (1, σ')
  rw [p1, b2r, a1, b2r, if_neg (show ¬ (1 : Int32) = 0 by decide), s1, b2r, if_pos rfl, gm]
  exact l552 h hst0 hst st 0 14 (rC σ6 τ7) (by omega) (by omega) s2 hx (fun i hi => by
    have := s4 i hi
    rw [q2] at this
    exact this)
theorem l127 (hkw : kwOK kw) (hN : N ≤ 260) (h : SemE m E) (hst0 : 0 < st) (hst : st ≤ 12) : ∀ (d i q : Nat) (σ : LwS) (σm : MS), i + d = st → d < q → RelW kw 0 E nm nc i ks km σm σ.1 → ¬ σ.1.1 2808 = 0 → (0 < i → ∀ k, k < 2 → σ.1.2.2.2.1 58 k = σ.1.2.2.2.2 0 k (i - 1)) → ∃ σ', FL_law_127 LF N xs q (nI m) (nI st) (nI i) σ = some (1, σ')
  | 0, i, q, σ, σm, hi, hq, hR, hp, hset => by
    obtain ⟨q, rfl⟩ : ∃ z, q = z + 1 := ⟨q - 1, by omega⟩
    have hi : i = st := by omega
    subst hi
    exact fin127 hkw hN h hst0 hst hR hp (hset hst0)
  | d+1, i, q, σ, σm, hi, hq, hR, hp, hset => by
    obtain ⟨q, rfl⟩ : ∃ z, q = z + 1 := ⟨q - 1, by omega⟩
    have h5 : nI i - nI i / 5 * 5 = nI (i % 5) := nI_rem (a := i) (b := 5) (by omega) (by decide) (by decide)
    obtain ⟨v, ev⟩ := cell_ok (N := N) (xs := xs) hN (k := 9 + i % 5) (by omega)
    have ev : FL_cell N xs (9 + (nI i - nI i / 5 * 5)) = some v := by rw [h5]; exact (congrArg (FL_cell N xs) (nI_add 9 (i % 5))).trans ev
    obtain ⟨a, ha, ea⟩ := below_ok (v >>> (((nI i / 5) * 5) &&& 31)) (n := 4) (by decide) (by decide)
    have ea : FL_below (v >>> (((nI i / 5) * 5) &&& 31)) 4 = _ := ea
    obtain ⟨u1, σm1, R1⟩ := w_set hR (n := 0) (by rw [h.1]; decide) (nI a).toInt64
    have u1 : FX10_set 0 (nI a).toInt64 σ.1 = _ := u1
    obtain ⟨b, hb, eb⟩ := below_ok ((v >>> (((nI i / 5) * 5) &&& 31)) >>> ((2 : Int32) &&& 31)) (n := 4) (by decide) (by decide)
    have eb : FL_below ((v >>> (((nI i / 5) * 5) &&& 31)) >>> ((2 : Int32) &&& 31)) 4 = _ := eb
    obtain ⟨u2, σm2, R2⟩ := w_set R1 (n := 1) (by rw [h.1]; decide) (nI b).toInt64
    generalize e1 : tB σ.1 58 (vp_updL (σ.1.2.2.2.1 58) 0 (nI a).toInt64) = τ1 at u1 u2 R1 R2
    have u2 : FX10_set 1 (nI b).toInt64 τ1 = _ := u2
    generalize e2 : tB τ1 58 (vp_updL (τ1.2.2.2.1 58) 1 (nI b).toInt64) = τ2 at u2 R2
    have hp2 : ¬ τ2.1 2808 = 0 := by rw [← e2, ← e1]; exact hp
    obtain ⟨c, hc, ec⟩ := below_ok ((v >>> (((nI i / 5) * 5) &&& 31)) >>> ((4 : Int32) &&& 31)) (n := 3) (by decide) (by decide)
    have ec : FL_below ((v >>> (((nI i / 5) * 5) &&& 31)) >>> ((4 : Int32) &&& 31)) 3 = _ := ec
    obtain ⟨w, σm3, τ3, t1, R3, t2, t3, t4, t5⟩ := w_tick (x := c) R2 (by omega) (by omega) hp2
    have l0 := w_let R3 (n := m) (i := i) (by rw [h.2.1]; omega) (by omega)
    have l1 : FX10_let (nI m + 1) (nI i) τ3 = _ := ll R3 h 1 (by decide) (by omega)
    have l2 : FX10_let (nI m + 2) (nI i) τ3 = _ := ll R3 h 2 (by decide) (by omega)
    have l3 : FX10_let (nI m + 3) (nI i) τ3 = _ := ll R3 h 3 (by decide) (by omega)
    have l4 : FX10_let (nI m + 4) (nI i) τ3 = _ := ll R3 h 4 (by decide) (by omega)
    obtain ⟨σ', go⟩ := l127 hkw hN h hst0 hst d (i + 1) q (rC σ τ3) σm3 (by omega) (by omega) R3 (by show ¬ τ3.1 2808 = 0; rw [t5]; exact hp2) (fun _ k hk => by
      show τ3.2.2.2.1 58 k = τ3.2.2.2.2 0 k (i + 1 - 1)
      rw [t4 k, t3, Nat.add_sub_cancel, if_pos ⟨rfl, Nat.zero_le _, by rw [h.1]; exact hk⟩])
    refine ⟨σ', ?_⟩
    rw [FL_law_127, if_neg (by rw [nI_leI (by omega) (by omega)]; omega), ev, obS, ea, obS, u1, b2o, eb, obS, u2, b2o, ec, obS, t1, b2o, l0, b2o, l1, b2o, l2, b2o, l3, b2o, l4, b2o]
    rw [nI_succ] at go
    exact (sAll (σ := rC σ τ3) (N := N) (xs := xs) (k127 := FL_law_127 LF N xs q) (x6 := nI st) R3 h (Nat.lt_succ_self i) rfl rfl rfl rfl (cn2 h)).trans go
theorem tk_its {its : List (List Int32)} {R : List Int32} (hn : 0 < its.length) (h : ItOK 0 (its.getD 0 [])) : (TK (its.flatten ++ R) 0).1 ≠ 53 := by
  cases its with
  | nil => exact absurd hn (Nat.lt_irrefl _)
  | cons A r =>
    have h : ItOK 0 A := h
    obtain ⟨ts, pc, t4, t20, t0, -, -⟩ := h
    have e : (A :: r).flatten ++ R = A ++ (r.flatten ++ R) := by rw [List.flatten_cons, List.append_assoc]
    rw [e, (pc (r.flatten ++ R)).1 0 (by omega), t0]
    decide
theorem law_ok (hkw : kwOK kw) (hN : N ≤ 260) : ∃ σ', FL_law LF N xs (s0C kw, fun _ _ => 0) = some (1, σ') := by
  obtain ⟨m, σ1, its, hm, e1, a1, w1, l1, n1', i1⟩ := parts_ok (N := N) (xs := xs) (σ := ((s0C kw, fun _ _ => 0) : LwS)) hN ⟨rfl, Nat.zero_le _, fun i hi => absurd hi (Nat.not_lt_zero _), fun x hx => absurd hx List.not_mem_nil⟩
  have q3 : (SB 93).length ≤ 20 ∧ (SB 94).length ≤ 20 ∧ (SB 95).length ≤ 300 := by decide +kernel
  have hm4 : 4 ≤ m ∧ m ≤ 6 := by omega
  generalize hB0 : tSig ++ its.flatten = B0 at w1 l1
  obtain ⟨σ2, e2, a2, w2⟩ := put_ok w1 (w := 93) (by decide) (by decide) (by omega)
  obtain ⟨σ3, e3, a3, w3⟩ := putd_ok (a := m - 1) w2 (by omega) (by simp only [List.length_append]; omega)
  obtain ⟨σ4, e4, a4, w4⟩ := put_ok w3 (w := 94) (by decide) (by decide) (by simp only [List.length_append, List.length_cons, List.length_nil]; omega)
  obtain ⟨σ5, e5, a5, w5⟩ := putd_ok (a := m - 2) w4 (by omega) (by simp only [List.length_append, List.length_cons, List.length_nil]; omega)
  obtain ⟨σ6, e6, a6, w6⟩ := put_ok w5 (w := 95) (by decide) (by decide) (by simp only [List.length_append, List.length_cons, List.length_nil]; omega)
  have eT : B0 ++ SB 93 ++ [dgt (m - 1)] ++ SB 94 ++ [dgt (m - 2)] ++ SB 95 = tSig ++ (its.flatten ++ finT m) := by
    rw [← hB0, show finT m = SB 93 ++ ([dgt (m - 1)] ++ (SB 94 ++ ([dgt (m - 2)] ++ SB 95))) from (fin_eq (m - 1) (m - 2)).symm]
    simp only [List.append_assoc]
  rw [eT] at w6
  obtain ⟨len, E0, nm, nc, st, ks, km, h0⟩ := rel0 (kw := kw)
  have hl0 : len = 0 := by
    have c1 : (0 : Int32) = nI len := h0.1.2.2.1
    have c2 : len ≤ 1800 := h0.1.2.2.2.1.1
    by_cases z : len = 0
    · exact z
    · exact absurd c1.symm (nI_ne0 (by omega) (by omega))
  subst hl0
  have h6 : RelW kw 0 E0 nm nc st ks km s0M σ6.1 := by
    rw [a6, a5, a4, a3, a2, a1]; exact h0
  obtain ⟨σ7, σm7, L1, L2, L3, L4, L5⟩ := lay_ok w6 w6.2.2.2.b h6
  have hT : TkB (tkT kw (σ7.1.2.2.1 3) (tSig ++ (its.flatten ++ finT m)).length) (tSig ++ (its.flatten ++ finT m)) := fun n => tk_at hkw (suf_rw L4 w6.2.2.2) n
  obtain ⟨E1, g1, g2, g3⟩ := pg_sig hT (f := 390 - m + 9 + its.length) Off.zero (tk_its (by omega) (i1 0 (by omega)))
  obtain ⟨E2, n2, g4, g5, g6, g7⟩ := pg_lets hT its 0 (390 - m + 9) 10 E1 g2 (fun i hi => by rw [Nat.zero_add]; exact i1 i (by omega)) (by omega) g3 (by omega) (fin_0 m (by omega))
  rw [Nat.zero_add, n1'] at g5
  have gg := g1.trans g4
  rw [show 390 - m + 9 + its.length + 2 = 401 by omega] at gg
  have r1 : nI m - 1 = nI (m - 1) := nI_sub (a := m) (b := 1) (by omega)
  have r2 : nI m - 2 = nI (m - 2) := nI_sub (a := m) (b := 2) (by omega)
  have n7 : nI m + 7 = nI (m + 7) := nI_add m 7
  rw [FL_law, e1, b2r, e2, b2r, r1, e3, b2r, e4, b2r, r2, e5, b2r, e6, b2r, L1, b2r, if_neg (show ¬ (1 : Int32) = 0 by decide), n7]
  by_cases h5 : m ≤ 5
  · obtain ⟨k', E', pg, sem⟩ := pg_fin hT (by omega) h5 g5 g6 (by omega) (f := 390 - m)
    obtain ⟨σm8, τ8, nm', nc', c1, c2, c3⟩ := w_compile hkw L3 (gg.trans pg)
    obtain ⟨v, ev⟩ := cell_ok (N := N) (xs := xs) hN (k := 8) (by decide)
    have ev : FL_cell N xs 8 = some v := ev
    obtain ⟨j, hj, ej⟩ := below_ok v (n := 12) (by decide) (by decide)
    have ej : FL_below v 12 = _ := ej
    have ej1 : 1 + nI j = nI (1 + j) := nI_add 1 j
    rw [c1, b2r, if_pos (show nI (m + 7) ≤ (12 : Int32) from nI_le (a := m + 7) (b := 12) (by omega) (by decide)), if_pos rfl, ev, obS, ej, obS, ej1]
    exact l127 hkw hN sem (st := 1 + j) (by omega) (by omega) (1 + j) 0 14 (rC σ7 τ8) σm8 (by omega) (by omega) c2 (by show ¬ τ8.1 2808 = 0; rw [c3]; decide) (fun z => absurd z (Nat.lt_irrefl _))
  · obtain ⟨k', e, pg, he⟩ := pg_fin6 hT (by omega) (show m = 6 by omega) g5 g6 (by omega) (f := 390 - m)
    obtain ⟨τ8, c1⟩ := w_compileE hkw L3 (gg.trans pg)
    rw [c1, b2r, if_neg (show ¬ nI (m + 7) ≤ (12 : Int32) from fun c => by
      have := (nI_leI (a := m + 7) (b := 12) (by omega) (by decide)).mp c
      omega), if_pos he]
    exact ⟨_, rfl⟩
end LH
